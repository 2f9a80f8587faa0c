/-! ===== words, worlds of a state, the judgement ===== -/
def tbl : List Cond := lw_tbl.filter goodWord
def wsA (y : MethodName) (cc : ByteArray) (nL : Nat) (ret : Option FieldType) : List Cond := .code y cc nL ret :: tbl
theorem tbl_good : tbl.all goodWord = true := List.all_eq_true.mpr (fun w hw => (List.mem_filter.mp hw).2)
theorem in_lw {w : Cond} (h : w ∈ lw_tbl) (hg : goodWord w = true) : w ∈ tbl := List.mem_filter.mpr ⟨h, hg⟩
theorem in_1 {w : Cond} (i : Nat) (h : tables_1_1[i]? = some w) (hg : goodWord w = true) : w ∈ tbl := in_lw (List.mem_append_right _ (List.mem_append_left _ (List.mem_of_getElem? h))) hg
theorem in_2 {w : Cond} (i : Nat) (h : tables_1_2[i]? = some w) (hg : goodWord w = true) : w ∈ tbl := in_lw (List.mem_append_right _ (List.mem_append_right _ (List.mem_append_left _ (List.mem_of_getElem? h)))) hg
theorem in_3 {w : Cond} (i : Nat) (h : tables_1_3[i]? = some w) (hg : goodWord w = true) : w ∈ tbl := in_lw (List.mem_append_right _ (List.mem_append_right _ (List.mem_append_right _ (List.mem_append_left _ (List.mem_of_getElem? h))))) hg
theorem in_4 {w : Cond} (i : Nat) (h : tables_1_4[i]? = some w) (hg : goodWord w = true) : w ∈ tbl := in_lw (List.mem_append_right _ (List.mem_append_right _ (List.mem_append_right _ (List.mem_append_right _ (List.mem_append_left _ (List.mem_of_getElem? h)))))) hg
theorem in_5 {w : Cond} (i : Nat) (h : tables_1_5[i]? = some w) (hg : goodWord w = true) : w ∈ tbl := in_lw (List.mem_append_right _ (List.mem_append_right _ (List.mem_append_right _ (List.mem_append_right _ (List.mem_append_right _ (List.mem_append_left _ (List.mem_of_getElem? h))))))) hg
theorem in_6 {w : Cond} (i : Nat) (h : tables_1_6[i]? = some w) (hg : goodWord w = true) : w ∈ tbl := in_lw (List.mem_append_right _ (List.mem_append_right _ (List.mem_append_right _ (List.mem_append_right _ (List.mem_append_right _ (List.mem_append_right _ (List.mem_append_left _ (List.mem_of_getElem? h)))))))) hg
theorem in_7 {w : Cond} (i : Nat) (h : tables_1_7[i]? = some w) (hg : goodWord w = true) : w ∈ tbl := in_lw (List.mem_append_right _ (List.mem_append_right _ (List.mem_append_right _ (List.mem_append_right _ (List.mem_append_right _ (List.mem_append_right _ (List.mem_append_right _ (List.mem_append_left _ (List.mem_of_getElem? h))))))))) hg
theorem in_8 {w : Cond} (i : Nat) (h : tables_1_8[i]? = some w) (hg : goodWord w = true) : w ∈ tbl := in_lw (List.mem_append_right _ (List.mem_append_right _ (List.mem_append_right _ (List.mem_append_right _ (List.mem_append_right _ (List.mem_append_right _ (List.mem_append_right _ (List.mem_append_right _ (List.mem_of_getElem? h))))))))) hg
theorem in_p1 {q : MethodName × Nat} (i : Nat) (h : lw_privs_1[i]? = some q) : Cond.selects q.1.cls q.1 q.1 ∈ tbl := in_lw (List.mem_append_left _ (List.mem_map.mpr ⟨q, List.mem_append_left _ (List.mem_of_getElem? h), rfl⟩)) rfl
theorem in_p2 {q : MethodName × Nat} (i : Nat) (h : lw_privs_2[i]? = some q) : Cond.selects q.1.cls q.1 q.1 ∈ tbl := in_lw (List.mem_append_left _ (List.mem_map.mpr ⟨q, List.mem_append_right _ (List.mem_append_left _ (List.mem_of_getElem? h)), rfl⟩)) rfl
theorem in_p3 {q : MethodName × Nat} (i : Nat) (h : lw_privs_3[i]? = some q) : Cond.selects q.1.cls q.1 q.1 ∈ tbl := in_lw (List.mem_append_left _ (List.mem_map.mpr ⟨q, List.mem_append_right _ (List.mem_append_right _ (List.mem_append_left _ (List.mem_of_getElem? h))), rfl⟩)) rfl
theorem in_p4 {q : MethodName × Nat} (i : Nat) (h : lw_privs_4[i]? = some q) : Cond.selects q.1.cls q.1 q.1 ∈ tbl := in_lw (List.mem_append_left _ (List.mem_map.mpr ⟨q, List.mem_append_right _ (List.mem_append_right _ (List.mem_append_right _ (List.mem_append_left _ (List.mem_of_getElem? h)))), rfl⟩)) rfl
theorem in_p5 {q : MethodName × Nat} (i : Nat) (h : lw_privs_5[i]? = some q) : Cond.selects q.1.cls q.1 q.1 ∈ tbl := in_lw (List.mem_append_left _ (List.mem_map.mpr ⟨q, List.mem_append_right _ (List.mem_append_right _ (List.mem_append_right _ (List.mem_append_right _ (List.mem_append_left _ (List.mem_of_getElem? h))))), rfl⟩)) rfl
theorem in_p6 {q : MethodName × Nat} (i : Nat) (h : lw_privs_6[i]? = some q) : Cond.selects q.1.cls q.1 q.1 ∈ tbl := in_lw (List.mem_append_left _ (List.mem_map.mpr ⟨q, List.mem_append_right _ (List.mem_append_right _ (List.mem_append_right _ (List.mem_append_right _ (List.mem_append_right _ (List.mem_append_left _ (List.mem_of_getElem? h)))))), rfl⟩)) rfl
theorem in_p7 {q : MethodName × Nat} (i : Nat) (h : lw_privs_7[i]? = some q) : Cond.selects q.1.cls q.1 q.1 ∈ tbl := in_lw (List.mem_append_left _ (List.mem_map.mpr ⟨q, List.mem_append_right _ (List.mem_append_right _ (List.mem_append_right _ (List.mem_append_right _ (List.mem_append_right _ (List.mem_append_right _ (List.mem_of_getElem? h)))))), rfl⟩)) rfl
theorem in_tbl {w : Cond} (i : Nat) (h : lw_tbl[i]? = some w) (hg : goodWord w = true) : w ∈ tbl := List.mem_filter.mpr ⟨List.mem_of_getElem? h, hg⟩
theorem good_wsA {y0 y : MethodName} {c0 cc : ByteArray} {n0 nL : Nat} {r0 ret : Option FieldType} (hy : Cond.code y cc nL ret ∈ tbl) : GoodIn (wsA y0 c0 n0 r0) (wsA y cc nL ret) := by
  intro w hw
  have hm : w ∈ tbl := by
    rcases List.mem_cons.mp hw with h | h
    · rw [h]; exact hy
    · exact h
  exact ⟨List.mem_cons_of_mem _ hm, good_of_word (List.all_eq_true.mp tbl_good w hm)⟩
def Aw (w : Wd) : Nat → Prop := fun q => ∃ r, 1 ≤ r ∧ r ≤ 185 ∧ q = w.2.2 r
def tys (w : Wd) : List (ClassId × FieldType) := [(w.2.1 0, .int), (w.2.1 1, .long), (w.2.1 2, .byte), (w.2.1 3, .boolean), (w.2.1 4, .object "StruckWords$Row"), (w.2.1 5, .object "StruckWords$Matter")]
def Wok (w : Wd) : Prop := ∀ i j : Nat, 1 ≤ i → i ≤ 185 → 1 ≤ j → j ≤ 185 → w.2.2 i = w.2.2 j → i = j
theorem wd_D {w : Wd} (hw : Wok w) (h : Hp) : va_D (Aw w) (wd w h) := by
  refine ⟨fun i j p q hi hj hpq => ?_, fun k q hk => ?_⟩
  · have li : i < 185 := by have := (List.getElem?_eq_some_iff.mp hi).1; rwa [wd_len] at this
    have lj : j < 185 := by have := (List.getElem?_eq_some_iff.mp hj).1; rwa [wd_len] at this
    rw [wd_get li] at hi
    rw [wd_get lj] at hj
    cases hi
    cases hj
    have := hw (i + 1) (j + 1) (by omega) (by omega) (by omega) (by omega) hpq
    omega
  · have lk : k < 185 := by have := (List.getElem?_eq_some_iff.mp hk).1; rwa [wd_len] at this
    rw [wd_get lk] at hk
    cases hk
    exact ⟨k + 1, by omega, by omega, rfl⟩
def kwN : List String := ["SORT", "BEGINS", "ENDS", "MARK", "FOLLOW", "WORD", "BEATS", "WEIGHS", "COSTS", "IDLE", "READS", "SETS", "CLEARS", "TURNS", "EDICT", "CLERK"]
def kwC : List Int32 := [638548, 72590803, 178323, 427595, 217461239, 769604, 2262675, 777297171, 3657363, 299397, 19039379, 628371, 113411667, 21678547, 5383284, 3544651]
def swT : List Int32 := [1, 0, 0, 2, 3, 4, 0, 0, 0, 0, 5, 0, 0, 0, 6, 7]
def kwF : List (String × String × String × List Int32) := [("StruckWords$Keyword", "code", "I", kwC), ("java/lang/Enum", "ordinal", "I", [0, 1, 2, 3, 4, 5, 6, 7, 8, 9, 10, 11, 12, 13, 14, 15])]
def Cst (w : Wd) (U : State) (H : Heap) : Prop :=
  va_En "StruckWords$Keyword" "LStruckWords$Keyword;" kwN kwF (fun i => w.2.2 (300 + i)) (Aw w) U H ∧
  va_Z "StruckWords$Keyword" "ALL" "[LStruckWords$Keyword;" (.ref (w.2.2 320)) (Aw w) U H ∧
  va_T (.object "StruckWords$Keyword") (w.2.2 320) 16 (fun j => .ref (w.2.2 (300 + j))) (Aw w) U H ∧
  va_Z "StruckWords$1" "$SwitchMap$StruckWords$Keyword" "[I" (.ref (w.2.2 321)) (Aw w) U H ∧
  va_T .int (w.2.2 321) 16 (fun j => .int (swT.getD j 0)) (Aw w) U H
theorem Cst.moved {w : Wd} {u U : State} {H : Heap} (hvm : u.vm.Alike U.vm) (h : Cst w u H) : Cst w U H :=
  ⟨h.1.moved hvm, h.2.1.moved hvm, h.2.2.1.moved hvm, h.2.2.2.1.moved hvm, h.2.2.2.2.moved hvm⟩
theorem Cst.kept {w : Wd} {U : State} {H H1 : Heap} (h : Cst w U H) (hq : ∀ a : Nat, a < H.size → ¬ Aw w a → H1[a]? = H[a]?) : Cst w U H1 :=
  ⟨h.1.kept hq, h.2.1.kept hq, h.2.2.1.kept hq, h.2.2.2.1.kept hq, h.2.2.2.2.kept hq⟩
/-- the one call of a nest mate's private method -/
def Nw (U : State) : Prop := va_Nw (.methodLinkNest "StruckWords$Tear" 134 ⟨"StruckWords", "meaningsWith", "(I)I"⟩ "StruckWords") U
/-- the world at a state -/
def WS (w : Wd) (h : Hp) (U : State) : Prop := va_P w.1 vwCl (wd w h) U.heap ∧ va_K w.1 vwCl (tys w) U ∧ Wok w ∧ Cst w U U.heap ∧ Nw U
def Qe (w : Wd) (r : Option cv × Hp) : Array Value → State → Outcome → State → Prop := fun _ st oc t => oc = .returned (r.1.map (tv w)) ∧ WS w r.2 t ∧ va_F (Aw w) st t
def rmk (k : Nat) : Room := { frames := k, cells := 0, slots := 0, locals := 64 * k }
/-- a method's contract: from the world h it comes to r -/
def CT (l : Launch) (w : Wd) (y : MethodName) (cc : ByteArray) (nL : Nat) (ret : Option FieldType) (k : Nat) (as : List cv) (h : Hp) (r : Option cv × Hp) : Prop :=
  Met l y (wsA y cc nL ret) (rmk k) (va_Pc (as.map (tv w)) (fun U => WS w h U)) (Qe w r) 0 0 (Aw w)
abbrev Kx : Type := Program × Launch × Env × Room × State × MethodId × Array Value × List Frame × Method × Code × Wd
def OK (κ : Kx) (cc : ByteArray) (nL : Nat) (ret : Option FieldType) (own : String) (k : Nat) : Prop := match κ with
  | (p, l, e, R, s, m, args, below, meth, c, w) => p.tables.exec = Jvm.exec ∧ c.code = cc ∧ c.maxLocals = nL ∧ meth.sig.returnType = ret ∧ s.vm.findClass own = some m.cls ∧ (∀ q ∈ tbl, q.before args s = true) ∧ meth.locks = false ∧ k ≤ R.frames ∧ 64 * k ≤ R.locals ∧ Wok w ∧ va_K w.1 vwCl (tys w) s ∧ Cst w s s.heap ∧ Nw s
def J (κ : Kx) (pc : Nat) (L : List (Nat × cv)) (st : List cv) (h : Hp) (r : Option cv × Hp) : Prop := match κ with
  | (p, l, e, R, s, m, args, below, meth, c, w) => ∀ (H : Heap) (locs : List Loc) (ls : Array Slot), va_P w.1 vwCl (wd w h) H → va_S (Aw w) s.heap H locs → lv_has ls c.maxLocals (L.map (tl w)) → W p l e R s m args below meth c H locs 0 0 (MQ below (Qe w r) args s 0 0 (Aw w)) (F0 m pc ls (st.map (tv w)))
section JJ
variable {κ : Kx} {cc : ByteArray} {nL : Nat} {ret : Option FieldType} {own : String} {lv pc : Nat} {L L' : List (Nat × cv)} {st : List cv} {h : Hp} {r : Option cv × Hp}
theorem has_at {w : Wd} {ls : Array Slot} {n : Nat} (hl : lv_has ls n (L.map (tl w))) {k i : Nat} {v : cv} (hk : L[k]? = some (i, v)) : ls[i]? = some (.val (tv w v)) := hl.2.2 (i, tv w v) (List.mem_map.mpr ⟨(i, v), List.mem_of_getElem? hk, rfl⟩)
theorem J_sub (ks : List Nat) (hL : ks.filterMap (fun k => L[k]?) = L') (K : J κ pc L' st h r) : J κ pc L st h r := by
  obtain ⟨p, l, e, R, s, m, args, below, meth, c, w⟩ := κ
  intro H locs ls hP hS hl
  refine K H locs ls hP hS ⟨hl.1, hl.2.1, fun q hq => ?_⟩
  obtain ⟨q0, h0, rfl⟩ := List.mem_map.mp hq
  rw [← hL] at h0
  obtain ⟨k, -, hk⟩ := List.mem_filterMap.mp h0
  exact hl.2.2 _ (List.mem_map.mpr ⟨q0, List.mem_of_getElem? hk, rfl⟩)

theorem sI_s {h : Hp} {a k : Nat} {v : Int32} : (sI h a k v).1 a k = v := if_pos ⟨rfl, rfl⟩
theorem sL_s {h : Hp} {a k : Nat} {v : Int64} : (sL h a k v).2.1 a k = v := if_pos ⟨rfl, rfl⟩
theorem sR_s {h : Hp} {a k : Nat} {v : Nat} : (sR h a k v).2.2 a k = v := if_pos ⟨rfl, rfl⟩
/-- a field's type and its kind -/
def tyOf (ty : FieldType) (q : Nat × Nat) : Bool := match q, ty with
  | (0, 0), .int => true
  | (0, 1), .boolean => true
  | (1, 0), .long => true
  | (3, 0), .object _ => true
  | _, _ => false
theorem sI_o {w : Wd} {h : Hp} {a k j : Nat} {v : Int32} {p : Nat × Nat} (hj : j ≠ k) : fdV w (sI h a k v) a j p = fdV w h a j p := by
  unfold fdV
  show (match p.1 with | 0 => Value.int (if a = a ∧ j = k then v else h.1 a j) | 1 => _ | 2 => _ | _ => _) = _
  rw [if_neg (fun z => hj z.2)]
  rfl
theorem sL_o {w : Wd} {h : Hp} {a k j : Nat} {v : Int64} {p : Nat × Nat} (hj : j ≠ k) : fdV w (sL h a k v) a j p = fdV w h a j p := by
  unfold fdV
  show (match p.1 with | 0 => _ | 1 => Value.long (if a = a ∧ j = k then v else h.2.1 a j) | 2 => _ | _ => _) = _
  rw [if_neg (fun z => hj z.2)]
  rfl
theorem sR_o {w : Wd} {h : Hp} {a k j : Nat} {v : Nat} {p : Nat × Nat} (hj : j ≠ k) : fdV w (sR h a k v) a j p = fdV w h a j p := by
  unfold fdV
  show (match p.1 with | 0 => _ | 1 => _ | 2 => _ | _ => va_rf (rr w.2.2 (if a = a ∧ j = k then v else h.2.2 a j))) = _
  rw [if_neg (fun z => hj z.2)]
  rfl

theorem tyI {ty : FieldType} {v : Int32} (h : tyOf ty (0, 0) = true) : narrow ty (.int v) = .int v ∧ fits ty (.int v) = true := by
  cases ty <;> first | exact ⟨rfl, rfl⟩ | exact absurd h (by simp [tyOf])
theorem tyL {ty : FieldType} {v : Int64} (h : tyOf ty (1, 0) = true) : narrow ty (.long v) = .long v ∧ fits ty (.long v) = true := by
  cases ty <;> first | exact ⟨rfl, rfl⟩ | exact absurd h (by simp [tyOf])
theorem tyR {ty : FieldType} {v : Option Nat} (h : tyOf ty (3, 0) = true) : narrow ty (va_rf v) = va_rf v ∧ fits ty (va_rf v) = true := by
  cases ty <;> first | (cases v <;> exact ⟨rfl, rfl⟩) | exact absurd h (by simp [tyOf])
theorem i_arr {w : Wd} {h : Hp} {a n k : Nat} {x : Int32} (ha : lay a = some (.inr (0, n))) : (wd w h).set (a - 1) (w.2.2 a, .inl (w.2.1 0, n, .inl (upd (h.1 a) k x))) = wd w (sI h a k x) := by
  refine wd_set ha ?_ (fun q hq => sI_ne q hq)
  rw [cel_a ha]
  show (Sum.inl (w.2.1 0, n, Sum.inl (fun j => if a = a ∧ j = k then x else h.1 a j)) : va_E) = _
  simp only [true_and]
  rfl
theorem b_arr {w : Wd} {h : Hp} {a n k : Nat} {x : Int32} (ha : lay a = some (.inr (2, n))) : (wd w h).set (a - 1) (w.2.2 a, .inl (w.2.1 2, n, .inl (upd (h.1 a) k x))) = wd w (sI h a k x) := by
  refine wd_set ha ?_ (fun q hq => sI_ne q hq)
  rw [cel_a ha]
  show (Sum.inl (w.2.1 2, n, Sum.inl (fun j => if a = a ∧ j = k then x else h.1 a j)) : va_E) = _
  simp only [true_and]
  rfl
theorem z_arr {w : Wd} {h : Hp} {a n k : Nat} {x : Int32} (ha : lay a = some (.inr (3, n))) : (wd w h).set (a - 1) (w.2.2 a, .inl (w.2.1 3, n, .inl (upd (h.1 a) k x))) = wd w (sI h a k x) := by
  refine wd_set ha ?_ (fun q hq => sI_ne q hq)
  rw [cel_a ha]
  show (Sum.inl (w.2.1 3, n, Sum.inl (fun j => if a = a ∧ j = k then x else h.1 a j)) : va_E) = _
  simp only [true_and]
  rfl
theorem l_arr {w : Wd} {h : Hp} {a n k : Nat} {x : Int64} (ha : lay a = some (.inr (1, n))) : (wd w h).set (a - 1) (w.2.2 a, .inl (w.2.1 1, n, .inr (.inl (vp_updL (h.2.1 a) k x)))) = wd w (sL h a k x) := by
  refine wd_set ha ?_ (fun q hq => sL_ne q hq)
  rw [cel_a ha]
  show (Sum.inl (w.2.1 1, n, Sum.inr (Sum.inl (fun j => if a = a ∧ j = k then x else h.2.1 a j))) : va_E) = _
  simp only [true_and]
  rfl
theorem ci_arr {w : Wd} {h : Hp} {x y i j n k : Nat} (hy : lay y = some (.inr (0, n))) : (wd w h).set (y - 1) (w.2.2 y, .inl (w.2.1 0, n, .inl (va_cpy (h.1 x) (h.1 y) i j k))) = wd w (cI h x i y j k) := by
  refine wd_set hy ?_ (fun q hq => cI_ne q hq)
  rw [cel_a hy]
  show (Sum.inl (w.2.1 0, n, Sum.inl (fun q => if y = y then va_cpy (h.1 x) (h.1 y) i j k q else h.1 y q)) : va_E) = _
  simp only [if_true]
theorem cl_arr {w : Wd} {h : Hp} {x y i j n k : Nat} (hy : lay y = some (.inr (1, n))) : (wd w h).set (y - 1) (w.2.2 y, .inl (w.2.1 1, n, .inr (.inl (va_cpy (h.2.1 x) (h.2.1 y) i j k)))) = wd w (cL h x i y j k) := by
  refine wd_set hy ?_ (fun q hq => cL_ne q hq)
  rw [cel_a hy]
  show (Sum.inl (w.2.1 1, n, Sum.inr (Sum.inl (fun q => if y = y then va_cpy (h.2.1 x) (h.2.1 y) i j k q else h.2.1 y q))) : va_E) = _
  simp only [if_true]

def inb (i : Int32) (n : Nat) : Bool := decide (0 ≤ i) && decide (i.toNatClampNeg < n)
theorem inb_in {i : Int32} {n : Nat} (h : inb i n = true) : vp_in i n := by
  simp only [inb, Bool.and_eq_true, decide_eq_true_eq] at h
  intro z
  rcases z with z | z
  · exact absurd h.1 (by rw [Int32.not_le]; exact z)
  · omega
def isZ (v : Int32) : Bool := decide (v = 0) || decide (v = 1)
theorem isZ_ok {v : Int32} (h : isZ v = true) : narrow .boolean (.int v) = .int v ∧ fits .boolean (.int v) = true := by
  simp only [isZ, Bool.or_eq_true, decide_eq_true_eq] at h
  rcases h with rfl | rfl <;> exact ⟨by decide, by decide⟩
theorem tyZ {ty : FieldType} {v : Int32} (hz : isZ v = true) (h : tyOf ty (0, 1) = true) : narrow ty (.int v) = .int v ∧ fits ty (.int v) = true := by
  cases ty <;> first | exact isZ_ok hz | exact absurd h (by simp [tyOf])
def isKw (x : Nat) : Bool := decide (x = 0) || (decide (300 ≤ x) && decide (x < 316))
theorem tv_ref {w : Wd} {a : Nat} (h : a ≠ 0) : tv w (.inr (.inr a)) = .ref (w.2.2 a) := by
  show va_rf (rr w.2.2 a) = _
  unfold rr
  rw [if_neg h]
  rfl
theorem kw_inj {w : Wd} {U : State} {H : Heap} (hC : Cst w U H) {x y : Nat} (hx : isKw x = true) (hy : isKw y = true) : rr w.2.2 x = rr w.2.2 y ↔ x = y := by
  simp only [isKw, Bool.or_eq_true, Bool.and_eq_true, decide_eq_true_eq] at hx hy
  constructor
  · intro hq
    unfold rr at hq
    rcases hx with rfl | hx <;> rcases hy with rfl | hy
    · rfl
    · rw [if_pos rfl, if_neg (by omega)] at hq; cases hq
    · rw [if_pos rfl, if_neg (by omega)] at hq; cases hq
    · rw [if_neg (by omega), if_neg (by omega)] at hq
      have hq := Option.some.inj hq
      have := hC.1.2 (x - 300) (y - 300) (by show _ < 16; omega) (by show _ < 16; omega) (by show w.2.2 (300 + (x - 300)) = w.2.2 (300 + (y - 300)); rw [show 300 + (x - 300) = x by omega, show 300 + (y - 300) = y by omega]; exact hq)
      omega
  · rintro rfl; rfl
theorem WS_end {w : Wd} {h : Hp} {s t : State} {H : Heap} {locs : List Loc} (hP : va_P w.1 vwCl (wd w h) H) (hS : va_S (Aw w) s.heap H locs) (hK : va_K w.1 vwCl (tys w) s) (hw : Wok w) (hC : Cst w s s.heap) (hN : Nw s) (ht : t.heap = H) (hW : s.WarmedH t.vm) : WS w h t := by
  refine ⟨by rw [ht]; exact hP, va_K.moved hW.alike hK, hw, ?_, hN.warmM hW⟩
  rw [ht]
  exact (hC.kept hS.2.1).moved hW.alike
/-- a field's link: its class in the list, its slot, its kind -/
def FL (own : String) (idx ci k : Nat) (q : Nat × Nat) : Prop := ∃ (C : String) (T : u_T) (N : Nat), vwCl[ci]? = some (C, T, N) ∧ (∀ w ∈ u_ws C T N, w ∈ tbl) ∧ k < N ∧ Cond.fieldLink own idx (T k).1 (T k).2.1 (T k).2.2.1 ∈ tbl ∧ (kn ci)[k]? = some q
/-- and that it may be written: types, names apart, not final -/
def FP (own : String) (idx ci k : Nat) (q : Nat × Nat) : Prop := ∃ (C : String) (T : u_T) (N : Nat) (ty : Nat → FieldType), vwCl[ci]? = some (C, T, N) ∧ (∀ w ∈ u_ws C T N, w ∈ tbl) ∧ k < N ∧ Cond.fieldLink own idx (T k).1 (T k).2.1 (T k).2.2.1 ∈ tbl ∧ (kn ci)[k]? = some q ∧ (∀ k, k < N → parseFieldDescriptor (T k).2.2.1 = some (ty k)) ∧ (∀ a, a < N → ∀ b, b < N → a ≠ b → (T a).2.1 ≠ (T b).2.1) ∧ (T k).2.2.2 = false ∧ tyOf (ty k) q = true
theorem J_get0 {p : Program} {l : Launch} {e : Env} {R : Room} {s : State} {m : MethodId} {args : Array Value} {below : List Frame} {meth : Method} {c : Code} {w : Wd} {H : Heap} {locs : List Loc} {ls : Array Slot} {Q : State → Prop} {stv : List Value} {a ci k idx : Nat} {q : Nat × Nat}
    (hx : p.tables.exec = Jvm.exec) (hb : c.code = cc) (hts : ∀ q ∈ tbl, q.before args s = true) (hown : s.vm.findClass own = some m.cls) (hK : va_K w.1 vwCl (tys w) s) (hP : va_P w.1 vwCl (wd w h) H) (ha : lay a = some (.inl ci)) (hf : FL own idx ci k q) (hd : decode cc pc = .ok (.getfield idx, 3))
    (K : W p l e R s m args below meth c H locs 0 0 Q (F0 m (pc + 3) ls (fdV w h a k q :: stv))) : W p l e R s m args below meth c H locs 0 0 Q (F0 m pc ls (tv w (.inr (.inr a)) :: stv)) := by
  obtain ⟨C, T, N, h1, h2, h3, h4, h5⟩ := hf
  rw [tv_ref (by have := (lay_in ha).1; omega)]
  exact va_get hx hb hts h2 hown hK hP (a - 1) ((wd_at ha).trans (by rw [cel_o ha])) h1 k h3 (hts _ h4) (fun _ q => q) (fd_at h5) hd K
theorem J_put0 {p : Program} {l : Launch} {e : Env} {R : Room} {s : State} {m : MethodId} {args : Array Value} {below : List Frame} {meth : Method} {c : Code} {w : Wd} {H : Heap} {locs : List Loc} {ls : Array Slot} {Q : State → Prop} {stv : List Value} {a ci k idx : Nat} {q : Nat × Nat} {v : Value} {h' : Hp}
    (hx : p.tables.exec = Jvm.exec) (hb : c.code = cc) (hts : ∀ q ∈ tbl, q.before args s = true) (hown : s.vm.findClass own = some m.cls) (hK : va_K w.1 vwCl (tys w) s) (hw : Wok w) (hP : va_P w.1 vwCl (wd w h) H) (hS : va_S (Aw w) s.heap H locs) (ha : lay a = some (.inl ci)) (hf : FP own idx ci k q)
    (hv : fdV w h' a k q = v) (ho : ∀ j p, j ≠ k → fdV w h' a j p = fdV w h a j p) (hne : ∀ q, q ≠ a → celE w h' q = celE w h q) (hn : ∀ ty, tyOf ty q = true → narrow ty v = v ∧ fits ty v = true) (hd : decode cc pc = .ok (.putfield idx, 3))
    (K : ∀ (H1 : Heap) (locs1 : List Loc), va_P w.1 vwCl (wd w h') H1 → va_S (Aw w) s.heap H1 locs1 → W p l e R s m args below meth c H1 locs1 0 0 Q (F0 m (pc + 3) ls stv)) : W p l e R s m args below meth c H locs 0 0 Q (F0 m pc ls (v :: tv w (.inr (.inr a)) :: stv)) := by
  obtain ⟨C, T, N, ty, h1, h2, h3, h4, h5, h6, h7, h8, h9⟩ := hf
  rw [tv_ref (by have := (lay_in ha).1; omega)]
  obtain ⟨n1, n2⟩ := hn _ h9
  refine va_put hx hb hts h2 ty h6 h7 hown hK hP (wd_D hw h) hS (a - 1) ((wd_at ha).trans (by rw [cel_o ha])) h1 k h3 (hts _ h4) (fun _ q => q) h8 (h6 k h3) n1 n2 ?_ hd (fun H1 locs1 hP1 hD1 hS1 => K H1 locs1 ?_ hS1)
  · rw [List.length_mapIdx]
    exact (List.getElem?_eq_some_iff.mp h5).1
  · rw [wd_set ha (h' := h') (by rw [cel_o ha, fd_set h5 hv ho]) hne] at hP1
    exact hP1
theorem J_iconst (X : OK κ cc nL ret own lv) {n : Int} {v : Int32} (hv : Int32.ofInt n = v) (hd : decode cc pc = .ok (.iconst n, 1)) (K : J κ (pc + 1) L (.inl v :: st) h r) : J κ pc L st h r := by
  obtain ⟨p, l, e, R, s, m, args, below, meth, c, w⟩ := κ
  obtain ⟨hx, hb, hml, hr, hown, hts, hlk, hfr, hlo, hw, hK, hC, hN⟩ := X
  intro H locs ls hP hS hl
  exact lv_iconst hx hb hd hv (K H locs ls hP hS hl)
theorem J_bipush (X : OK κ cc nL ret own lv) {n : Int} {v : Int32} (hv : (Int8.ofInt n).toInt32 = v) (hd : decode cc pc = .ok (.bipush n, 2)) (K : J κ (pc + 2) L (.inl v :: st) h r) : J κ pc L st h r := by
  obtain ⟨p, l, e, R, s, m, args, below, meth, c, w⟩ := κ
  obtain ⟨hx, hb, hml, hr, hown, hts, hlk, hfr, hlo, hw, hK, hC, hN⟩ := X
  intro H locs ls hP hS hl
  exact lv_bipush hx hb hd hv (K H locs ls hP hS hl)
theorem J_sipush (X : OK κ cc nL ret own lv) {n : Int} {v : Int32} (hv : (Int16.ofInt n).toInt32 = v) (hd : decode cc pc = .ok (.sipush n, 3)) (K : J κ (pc + 3) L (.inl v :: st) h r) : J κ pc L st h r := by
  obtain ⟨p, l, e, R, s, m, args, below, meth, c, w⟩ := κ
  obtain ⟨hx, hb, hml, hr, hown, hts, hlk, hfr, hlo, hw, hK, hC, hN⟩ := X
  intro H locs ls hP hS hl
  exact lv_sipush hx hb hd hv (K H locs ls hP hS hl)
theorem J_lconst (X : OK κ cc nL ret own lv) {n : Fin 2} {v : Int64} (hv : Int64.ofNat (n : Nat) = v) (hd : decode cc pc = .ok (.lconst n, 1)) (K : J κ (pc + 1) L (.inr (.inl v) :: st) h r) : J κ pc L st h r := by
  obtain ⟨p, l, e, R, s, m, args, below, meth, c, w⟩ := κ
  obtain ⟨hx, hb, hml, hr, hown, hts, hlk, hfr, hlo, hw, hK, hC, hN⟩ := X
  intro H locs ls hP hS hl
  exact lv_lconst hx hb hd hv (K H locs ls hP hS hl)
theorem J_ldc (X : OK κ cc nL ret own lv) {idx : Nat} {v : Int32} (hv : Cond.constant own idx v ∈ tbl) (hd : decode cc pc = .ok (.ldc idx, 2)) (K : J κ (pc + 2) L (.inl v :: st) h r) : J κ pc L st h r := by
  obtain ⟨p, l, e, R, s, m, args, below, meth, c, w⟩ := κ
  obtain ⟨hx, hb, hml, hr, hown, hts, hlk, hfr, hlo, hw, hK, hC, hN⟩ := X
  intro H locs ls hP hS hl
  exact lv_ldc hx hb hown (hts _ hv) hd (K H locs ls hP hS hl)
theorem J_ldcw (X : OK κ cc nL ret own lv) {idx : Nat} {v : Int32} (hv : Cond.constant own idx v ∈ tbl) (hd : decode cc pc = .ok (.ldc_w idx, 3)) (K : J κ (pc + 3) L (.inl v :: st) h r) : J κ pc L st h r := by
  obtain ⟨p, l, e, R, s, m, args, below, meth, c, w⟩ := κ
  obtain ⟨hx, hb, hml, hr, hown, hts, hlk, hfr, hlo, hw, hK, hC, hN⟩ := X
  intro H locs ls hP hS hl
  exact lv_ldcw hx hb hown (hts _ hv) hd (K H locs ls hP hS hl)
theorem J_ldc2 (X : OK κ cc nL ret own lv) {idx : Nat} {v : Int64} (hv : Cond.constantLong own idx v ∈ tbl) (hd : decode cc pc = .ok (.ldc2_w idx, 3)) (K : J κ (pc + 3) L (.inr (.inl v) :: st) h r) : J κ pc L st h r := by
  obtain ⟨p, l, e, R, s, m, args, below, meth, c, w⟩ := κ
  obtain ⟨hx, hb, hml, hr, hown, hts, hlk, hfr, hlo, hw, hK, hC, hN⟩ := X
  intro H locs ls hP hS hl
  exact lv_ldc2 hx hb hown (hts _ hv) hd (K H locs ls hP hS hl)
theorem J_iload_n (X : OK κ cc nL ret own lv) {k : Fin 4} {j i : Nat} {x : Int32} (hi : (k : Nat) = i) (hk : L[j]? = some (i, .inl x)) (hd : decode cc pc = .ok (.iload_n k, 1)) (K : J κ (pc + 1) L (.inl x :: st) h r) : J κ pc L st h r := by
  obtain ⟨p, l, e, R, s, m, args, below, meth, c, w⟩ := κ
  obtain ⟨hx, hb, hml, hr, hown, hts, hlk, hfr, hlo, hw, hK, hC, hN⟩ := X
  intro H locs ls hP hS hl
  exact lv_iload_n hx hb hd hi (has_at hl hk) (K H locs ls hP hS hl)
theorem J_iload (X : OK κ cc nL ret own lv) {j i : Nat} {x : Int32} (hk : L[j]? = some (i, .inl x)) (hd : decode cc pc = .ok (.iload i, 2)) (K : J κ (pc + 2) L (.inl x :: st) h r) : J κ pc L st h r := by
  obtain ⟨p, l, e, R, s, m, args, below, meth, c, w⟩ := κ
  obtain ⟨hx, hb, hml, hr, hown, hts, hlk, hfr, hlo, hw, hK, hC, hN⟩ := X
  intro H locs ls hP hS hl
  exact lv_iload hx hb hd (has_at hl hk) (K H locs ls hP hS hl)
theorem J_lload_n (X : OK κ cc nL ret own lv) {k : Fin 4} {j i : Nat} {x : Int64} (hi : (k : Nat) = i) (hk : L[j]? = some (i, .inr (.inl x))) (hd : decode cc pc = .ok (.lload_n k, 1)) (K : J κ (pc + 1) L (.inr (.inl x) :: st) h r) : J κ pc L st h r := by
  obtain ⟨p, l, e, R, s, m, args, below, meth, c, w⟩ := κ
  obtain ⟨hx, hb, hml, hr, hown, hts, hlk, hfr, hlo, hw, hK, hC, hN⟩ := X
  intro H locs ls hP hS hl
  exact lv_lload_n hx hb hd hi (has_at hl hk) (K H locs ls hP hS hl)
theorem J_lload (X : OK κ cc nL ret own lv) {j i : Nat} {x : Int64} (hk : L[j]? = some (i, .inr (.inl x))) (hd : decode cc pc = .ok (.lload i, 2)) (K : J κ (pc + 2) L (.inr (.inl x) :: st) h r) : J κ pc L st h r := by
  obtain ⟨p, l, e, R, s, m, args, below, meth, c, w⟩ := κ
  obtain ⟨hx, hb, hml, hr, hown, hts, hlk, hfr, hlo, hw, hK, hC, hN⟩ := X
  intro H locs ls hP hS hl
  exact lv_lload hx hb hd (has_at hl hk) (K H locs ls hP hS hl)
theorem J_aload_n (X : OK κ cc nL ret own lv) {k : Fin 4} {j i x : Nat} (hi : (k : Nat) = i) (hk : L[j]? = some (i, .inr (.inr x))) (hd : decode cc pc = .ok (.aload_n k, 1)) (K : J κ (pc + 1) L (.inr (.inr x) :: st) h r) : J κ pc L st h r := by
  obtain ⟨p, l, e, R, s, m, args, below, meth, c, w⟩ := κ
  obtain ⟨hx, hb, hml, hr, hown, hts, hlk, hfr, hlo, hw, hK, hC, hN⟩ := X
  intro H locs ls hP hS hl
  have hv := has_at hl hk
  have K := K H locs ls hP hS hl
  rw [List.map_cons] at K
  by_cases h0 : x = 0
  · subst h0
    exact lv_aload_nN hx hb hd hi hv K
  · have e : tv w (.inr (.inr x)) = .ref (w.2.2 x) := by show va_rf (rr w.2.2 x) = _; unfold rr; rw [if_neg h0]; rfl
    rw [e] at hv K
    exact lv_aload_n hx hb hd hi hv K
theorem J_aload (X : OK κ cc nL ret own lv) {j i x : Nat} (hk : L[j]? = some (i, .inr (.inr x))) (hd : decode cc pc = .ok (.aload i, 2)) (K : J κ (pc + 2) L (.inr (.inr x) :: st) h r) : J κ pc L st h r := by
  obtain ⟨p, l, e, R, s, m, args, below, meth, c, w⟩ := κ
  obtain ⟨hx, hb, hml, hr, hown, hts, hlk, hfr, hlo, hw, hK, hC, hN⟩ := X
  intro H locs ls hP hS hl
  have hv := has_at hl hk
  have K := K H locs ls hP hS hl
  rw [List.map_cons] at K
  by_cases h0 : x = 0
  · subst h0
    exact lv_aloadN hx hb hd hv K
  · have e : tv w (.inr (.inr x)) = .ref (w.2.2 x) := by show va_rf (rr w.2.2 x) = _; unfold rr; rw [if_neg h0]; rfl
    rw [e] at hv K
    exact lv_aload hx hb hd hv K
theorem J_istore_n (X : OK κ cc nL ret own lv) {k : Fin 4} {i : Nat} {x : Int32} (hi : (k : Nat) = i) (hn : i < nL) (hL : st1 L i (.inl x) = L') (hd : decode cc pc = .ok (.istore_n k, 1)) (K : J κ (pc + 1) L' st h r) : J κ pc L (.inl x :: st) h r := by
  obtain ⟨p, l, e, R, s, m, args, below, meth, c, w⟩ := κ
  obtain ⟨hx, hb, hml, hr, hown, hts, hlk, hfr, hlo, hw, hK, hC, hN⟩ := X
  intro H locs ls hP hS hl
  exact lv_istore_n hx hb hd hi hl (by omega) ((st1_map w L i (.inl x)).trans (by rw [hL])) (fun ls' hl' => K H locs ls' hP hS hl')
theorem J_istore (X : OK κ cc nL ret own lv) {i : Nat} {x : Int32} (hn : i < nL) (hL : st1 L i (.inl x) = L') (hd : decode cc pc = .ok (.istore i, 2)) (K : J κ (pc + 2) L' st h r) : J κ pc L (.inl x :: st) h r := by
  obtain ⟨p, l, e, R, s, m, args, below, meth, c, w⟩ := κ
  obtain ⟨hx, hb, hml, hr, hown, hts, hlk, hfr, hlo, hw, hK, hC, hN⟩ := X
  intro H locs ls hP hS hl
  exact lv_istore hx hb hd hl (by omega) ((st1_map w L i (.inl x)).trans (by rw [hL])) (fun ls' hl' => K H locs ls' hP hS hl')
theorem J_lstore_n (X : OK κ cc nL ret own lv) {k : Fin 4} {i : Nat} {x : Int64} (hi : (k : Nat) = i) (hn : i + 1 < nL) (hL : st2 L i (.inr (.inl x)) = L') (hd : decode cc pc = .ok (.lstore_n k, 1)) (K : J κ (pc + 1) L' st h r) : J κ pc L (.inr (.inl x) :: st) h r := by
  obtain ⟨p, l, e, R, s, m, args, below, meth, c, w⟩ := κ
  obtain ⟨hx, hb, hml, hr, hown, hts, hlk, hfr, hlo, hw, hK, hC, hN⟩ := X
  intro H locs ls hP hS hl
  exact lv_lstore_n hx hb hd hi hl (by omega) ((st2_map w L i (.inr (.inl x))).trans (by rw [hL])) (fun ls' hl' => K H locs ls' hP hS hl')
theorem J_lstore (X : OK κ cc nL ret own lv) {i : Nat} {x : Int64} (hn : i + 1 < nL) (hL : st2 L i (.inr (.inl x)) = L') (hd : decode cc pc = .ok (.lstore i, 2)) (K : J κ (pc + 2) L' st h r) : J κ pc L (.inr (.inl x) :: st) h r := by
  obtain ⟨p, l, e, R, s, m, args, below, meth, c, w⟩ := κ
  obtain ⟨hx, hb, hml, hr, hown, hts, hlk, hfr, hlo, hw, hK, hC, hN⟩ := X
  intro H locs ls hP hS hl
  exact lv_lstore hx hb hd hl (by omega) ((st2_map w L i (.inr (.inl x))).trans (by rw [hL])) (fun ls' hl' => K H locs ls' hP hS hl')
theorem J_astore_n (X : OK κ cc nL ret own lv) {i x : Nat} {k : Fin 4} (hi : (k : Nat) = i) (hn : i < nL) (hL : st1 L i (.inr (.inr x)) = L') (hd : decode cc pc = .ok (.astore_n k, 1)) (K : J κ (pc + 1) L' st h r) : J κ pc L (.inr (.inr x) :: st) h r := by
  obtain ⟨p, l, e, R, s, m, args, below, meth, c, w⟩ := κ
  obtain ⟨hx, hb, hml, hr, hown, hts, hlk, hfr, hlo, hw, hK, hC, hN⟩ := X
  intro H locs ls hP hS hl
  have hf := (st1_map w L i (.inr (.inr x))).trans (by rw [hL])
  rw [List.map_cons]
  by_cases h0 : x = 0
  · subst h0
    exact lv_astore_nN hx hb hd hi hl (by omega) hf (fun ls' hl' => K H locs ls' hP hS hl')
  · have e : tv w (.inr (.inr x)) = .ref (w.2.2 x) := by show va_rf (rr w.2.2 x) = _; unfold rr; rw [if_neg h0]; rfl
    rw [e] at hf ⊢
    exact lv_astore_n hx hb hd hi hl (by omega) hf (fun ls' hl' => K H locs ls' hP hS hl')
theorem J_astore (X : OK κ cc nL ret own lv) {i x : Nat} (hn : i < nL) (hL : st1 L i (.inr (.inr x)) = L') (hd : decode cc pc = .ok (.astore i, 2)) (K : J κ (pc + 2) L' st h r) : J κ pc L (.inr (.inr x) :: st) h r := by
  obtain ⟨p, l, e, R, s, m, args, below, meth, c, w⟩ := κ
  obtain ⟨hx, hb, hml, hr, hown, hts, hlk, hfr, hlo, hw, hK, hC, hN⟩ := X
  intro H locs ls hP hS hl
  have hf := (st1_map w L i (.inr (.inr x))).trans (by rw [hL])
  rw [List.map_cons]
  by_cases h0 : x = 0
  · subst h0
    exact lv_astoreN hx hb hd hl (by omega) hf (fun ls' hl' => K H locs ls' hP hS hl')
  · have e : tv w (.inr (.inr x)) = .ref (w.2.2 x) := by show va_rf (rr w.2.2 x) = _; unfold rr; rw [if_neg h0]; rfl
    rw [e] at hf ⊢
    exact lv_astore hx hb hd hl (by omega) hf (fun ls' hl' => K H locs ls' hP hS hl')
theorem J_iinc (X : OK κ cc nL ret own lv) {i j : Nat} {n : Int} {x v : Int32} (hk : L[j]? = some (i, .inl x)) (hv : Int32.ofInt n = v) (hn : i < nL) (hL : st1 L i (.inl (x + v)) = L') (hd : decode cc pc = .ok (.iinc i n, 3)) (K : J κ (pc + 3) L' st h r) : J κ pc L st h r := by
  obtain ⟨p, l, e, R, s, m, args, below, meth, c, w⟩ := κ
  obtain ⟨hx, hb, hml, hr, hown, hts, hlk, hfr, hlo, hw, hK, hC, hN⟩ := X
  intro H locs ls hP hS hl
  exact lv_iinc (k := j) hx hb hd hl (by rw [List.getElem?_map, hk]; rfl) (by rw [hv]) (by omega) ((st1_map w L i (.inl (x + v))).trans (by rw [hL])) (fun ls' hl' => K H locs ls' hP hS hl')
theorem J_iadd (X : OK κ cc nL ret own lv) {x y : Int32} (hd : decode cc pc = .ok (.iadd, 1)) (K : J κ (pc + 1) L (.inl (x + y) :: st) h r) : J κ pc L (.inl y :: .inl x :: st) h r := by
  obtain ⟨p, l, e, R, s, m, args, below, meth, c, w⟩ := κ
  obtain ⟨hx, hb, hml, hr, hown, hts, hlk, hfr, hlo, hw, hK, hC, hN⟩ := X
  intro H locs ls hP hS hl
  exact lv_iadd hx hb hd (K H locs ls hP hS hl)
theorem J_isub (X : OK κ cc nL ret own lv) {x y : Int32} (hd : decode cc pc = .ok (.isub, 1)) (K : J κ (pc + 1) L (.inl (x - y) :: st) h r) : J κ pc L (.inl y :: .inl x :: st) h r := by
  obtain ⟨p, l, e, R, s, m, args, below, meth, c, w⟩ := κ
  obtain ⟨hx, hb, hml, hr, hown, hts, hlk, hfr, hlo, hw, hK, hC, hN⟩ := X
  intro H locs ls hP hS hl
  exact lv_isub hx hb hd (K H locs ls hP hS hl)
theorem J_imul (X : OK κ cc nL ret own lv) {x y : Int32} (hd : decode cc pc = .ok (.imul, 1)) (K : J κ (pc + 1) L (.inl (x * y) :: st) h r) : J κ pc L (.inl y :: .inl x :: st) h r := by
  obtain ⟨p, l, e, R, s, m, args, below, meth, c, w⟩ := κ
  obtain ⟨hx, hb, hml, hr, hown, hts, hlk, hfr, hlo, hw, hK, hC, hN⟩ := X
  intro H locs ls hP hS hl
  exact lv_imul hx hb hd (K H locs ls hP hS hl)
theorem J_iand (X : OK κ cc nL ret own lv) {x y : Int32} (hd : decode cc pc = .ok (.iand, 1)) (K : J κ (pc + 1) L (.inl (x &&& y) :: st) h r) : J κ pc L (.inl y :: .inl x :: st) h r := by
  obtain ⟨p, l, e, R, s, m, args, below, meth, c, w⟩ := κ
  obtain ⟨hx, hb, hml, hr, hown, hts, hlk, hfr, hlo, hw, hK, hC, hN⟩ := X
  intro H locs ls hP hS hl
  exact lv_iand hx hb hd (K H locs ls hP hS hl)
theorem J_ior (X : OK κ cc nL ret own lv) {x y : Int32} (hd : decode cc pc = .ok (.ior, 1)) (K : J κ (pc + 1) L (.inl (x ||| y) :: st) h r) : J κ pc L (.inl y :: .inl x :: st) h r := by
  obtain ⟨p, l, e, R, s, m, args, below, meth, c, w⟩ := κ
  obtain ⟨hx, hb, hml, hr, hown, hts, hlk, hfr, hlo, hw, hK, hC, hN⟩ := X
  intro H locs ls hP hS hl
  exact lv_ior hx hb hd (K H locs ls hP hS hl)
theorem J_ixor (X : OK κ cc nL ret own lv) {x y : Int32} (hd : decode cc pc = .ok (.ixor, 1)) (K : J κ (pc + 1) L (.inl (x ^^^ y) :: st) h r) : J κ pc L (.inl y :: .inl x :: st) h r := by
  obtain ⟨p, l, e, R, s, m, args, below, meth, c, w⟩ := κ
  obtain ⟨hx, hb, hml, hr, hown, hts, hlk, hfr, hlo, hw, hK, hC, hN⟩ := X
  intro H locs ls hP hS hl
  exact lv_ixor hx hb hd (K H locs ls hP hS hl)
theorem J_ishl (X : OK κ cc nL ret own lv) {x y : Int32} (hd : decode cc pc = .ok (.ishl, 1)) (K : J κ (pc + 1) L (.inl (x <<< (y &&& 31)) :: st) h r) : J κ pc L (.inl y :: .inl x :: st) h r := by
  obtain ⟨p, l, e, R, s, m, args, below, meth, c, w⟩ := κ
  obtain ⟨hx, hb, hml, hr, hown, hts, hlk, hfr, hlo, hw, hK, hC, hN⟩ := X
  intro H locs ls hP hS hl
  exact lv_ishl hx hb hd (K H locs ls hP hS hl)
theorem J_ishr (X : OK κ cc nL ret own lv) {x y : Int32} (hd : decode cc pc = .ok (.ishr, 1)) (K : J κ (pc + 1) L (.inl (x >>> (y &&& 31)) :: st) h r) : J κ pc L (.inl y :: .inl x :: st) h r := by
  obtain ⟨p, l, e, R, s, m, args, below, meth, c, w⟩ := κ
  obtain ⟨hx, hb, hml, hr, hown, hts, hlk, hfr, hlo, hw, hK, hC, hN⟩ := X
  intro H locs ls hP hS hl
  exact lv_ishr hx hb hd (K H locs ls hP hS hl)
theorem J_idiv (X : OK κ cc nL ret own lv) {x y : Int32} (hne : ¬ y = 0) (hd : decode cc pc = .ok (.idiv, 1)) (K : J κ (pc + 1) L (.inl (x / y) :: st) h r) : J κ pc L (.inl y :: .inl x :: st) h r := by
  obtain ⟨p, l, e, R, s, m, args, below, meth, c, w⟩ := κ
  obtain ⟨hx, hb, hml, hr, hown, hts, hlk, hfr, hlo, hw, hK, hC, hN⟩ := X
  intro H locs ls hP hS hl
  exact lv_idiv hx hb hd hne (K H locs ls hP hS hl)
theorem J_irem (X : OK κ cc nL ret own lv) {x y : Int32} (hne : ¬ y = 0) (hd : decode cc pc = .ok (.irem, 1)) (K : J κ (pc + 1) L (.inl (x - x / y * y) :: st) h r) : J κ pc L (.inl y :: .inl x :: st) h r := by
  obtain ⟨p, l, e, R, s, m, args, below, meth, c, w⟩ := κ
  obtain ⟨hx, hb, hml, hr, hown, hts, hlk, hfr, hlo, hw, hK, hC, hN⟩ := X
  intro H locs ls hP hS hl
  exact lv_irem hx hb hd hne (K H locs ls hP hS hl)
theorem J_iushr (X : OK κ cc nL ret own lv) {x y : Int32} (hd : decode cc pc = .ok (.iushr, 1)) (K : J κ (pc + 1) L (.inl (x.toUInt32 >>> (y.toUInt32 &&& Int32.toUInt32 31)).toInt32 :: st) h r) : J κ pc L (.inl y :: .inl x :: st) h r := by
  obtain ⟨p, l, e, R, s, m, args, below, meth, c, w⟩ := κ
  obtain ⟨hx, hb, hml, hr, hown, hts, hlk, hfr, hlo, hw, hK, hC, hN⟩ := X
  intro H locs ls hP hS hl
  exact lv_iushr hx hb hd rfl (K H locs ls hP hS hl)
theorem J_ladd (X : OK κ cc nL ret own lv) {x y : Int64} (hd : decode cc pc = .ok (.ladd, 1)) (K : J κ (pc + 1) L (.inr (.inl (x + y)) :: st) h r) : J κ pc L (.inr (.inl y) :: .inr (.inl x) :: st) h r := by
  obtain ⟨p, l, e, R, s, m, args, below, meth, c, w⟩ := κ
  obtain ⟨hx, hb, hml, hr, hown, hts, hlk, hfr, hlo, hw, hK, hC, hN⟩ := X
  intro H locs ls hP hS hl
  exact lv_ladd hx hb hd (K H locs ls hP hS hl)
theorem J_lmul (X : OK κ cc nL ret own lv) {x y : Int64} (hd : decode cc pc = .ok (.lmul, 1)) (K : J κ (pc + 1) L (.inr (.inl (x * y)) :: st) h r) : J κ pc L (.inr (.inl y) :: .inr (.inl x) :: st) h r := by
  obtain ⟨p, l, e, R, s, m, args, below, meth, c, w⟩ := κ
  obtain ⟨hx, hb, hml, hr, hown, hts, hlk, hfr, hlo, hw, hK, hC, hN⟩ := X
  intro H locs ls hP hS hl
  exact lv_lmul hx hb hd (K H locs ls hP hS hl)
theorem J_land (X : OK κ cc nL ret own lv) {x y : Int64} (hd : decode cc pc = .ok (.land, 1)) (K : J κ (pc + 1) L (.inr (.inl (x &&& y)) :: st) h r) : J κ pc L (.inr (.inl y) :: .inr (.inl x) :: st) h r := by
  obtain ⟨p, l, e, R, s, m, args, below, meth, c, w⟩ := κ
  obtain ⟨hx, hb, hml, hr, hown, hts, hlk, hfr, hlo, hw, hK, hC, hN⟩ := X
  intro H locs ls hP hS hl
  exact lv_land hx hb hd (K H locs ls hP hS hl)
theorem J_lor (X : OK κ cc nL ret own lv) {x y : Int64} (hd : decode cc pc = .ok (.lor, 1)) (K : J κ (pc + 1) L (.inr (.inl (x ||| y)) :: st) h r) : J κ pc L (.inr (.inl y) :: .inr (.inl x) :: st) h r := by
  obtain ⟨p, l, e, R, s, m, args, below, meth, c, w⟩ := κ
  obtain ⟨hx, hb, hml, hr, hown, hts, hlk, hfr, hlo, hw, hK, hC, hN⟩ := X
  intro H locs ls hP hS hl
  exact lv_lor hx hb hd (K H locs ls hP hS hl)
theorem J_lxor (X : OK κ cc nL ret own lv) {x y : Int64} (hd : decode cc pc = .ok (.lxor, 1)) (K : J κ (pc + 1) L (.inr (.inl (x ^^^ y)) :: st) h r) : J κ pc L (.inr (.inl y) :: .inr (.inl x) :: st) h r := by
  obtain ⟨p, l, e, R, s, m, args, below, meth, c, w⟩ := κ
  obtain ⟨hx, hb, hml, hr, hown, hts, hlk, hfr, hlo, hw, hK, hC, hN⟩ := X
  intro H locs ls hP hS hl
  exact lv_lxor hx hb hd (K H locs ls hP hS hl)
theorem J_lshl (X : OK κ cc nL ret own lv) {x : Int64} {y : Int32} (hd : decode cc pc = .ok (.lshl, 1)) (K : J κ (pc + 1) L (.inr (.inl (x <<< (y.toInt64 &&& 63))) :: st) h r) : J κ pc L (.inl y :: .inr (.inl x) :: st) h r := by
  obtain ⟨p, l, e, R, s, m, args, below, meth, c, w⟩ := κ
  obtain ⟨hx, hb, hml, hr, hown, hts, hlk, hfr, hlo, hw, hK, hC, hN⟩ := X
  intro H locs ls hP hS hl
  exact lv_lshl hx hb hd rfl (K H locs ls hP hS hl)
theorem J_lshr (X : OK κ cc nL ret own lv) {x : Int64} {y : Int32} (hd : decode cc pc = .ok (.lshr, 1)) (K : J κ (pc + 1) L (.inr (.inl (x >>> (y.toInt64 &&& 63))) :: st) h r) : J κ pc L (.inl y :: .inr (.inl x) :: st) h r := by
  obtain ⟨p, l, e, R, s, m, args, below, meth, c, w⟩ := κ
  obtain ⟨hx, hb, hml, hr, hown, hts, hlk, hfr, hlo, hw, hK, hC, hN⟩ := X
  intro H locs ls hP hS hl
  exact lv_lshr hx hb hd rfl (K H locs ls hP hS hl)
theorem J_lushr (X : OK κ cc nL ret own lv) {x : Int64} {y : Int32} (hd : decode cc pc = .ok (.lushr, 1)) (K : J κ (pc + 1) L (.inr (.inl ((x.toUInt64 >>> (y.toInt64.toUInt64 &&& Int64.toUInt64 63)).toInt64)) :: st) h r) : J κ pc L (.inl y :: .inr (.inl x) :: st) h r := by
  obtain ⟨p, l, e, R, s, m, args, below, meth, c, w⟩ := κ
  obtain ⟨hx, hb, hml, hr, hown, hts, hlk, hfr, hlo, hw, hK, hC, hN⟩ := X
  intro H locs ls hP hS hl
  exact lv_lushr hx hb hd rfl (K H locs ls hP hS hl)
theorem J_i2l (X : OK κ cc nL ret own lv) {x : Int32} (hd : decode cc pc = .ok (.i2l, 1)) (K : J κ (pc + 1) L (.inr (.inl x.toInt64) :: st) h r) : J κ pc L (.inl x :: st) h r := by
  obtain ⟨p, l, e, R, s, m, args, below, meth, c, w⟩ := κ
  obtain ⟨hx, hb, hml, hr, hown, hts, hlk, hfr, hlo, hw, hK, hC, hN⟩ := X
  intro H locs ls hP hS hl
  exact lv_i2l hx hb hd rfl (K H locs ls hP hS hl)
theorem J_l2i (X : OK κ cc nL ret own lv) {x : Int64} (hd : decode cc pc = .ok (.l2i, 1)) (K : J κ (pc + 1) L (.inl x.toInt32 :: st) h r) : J κ pc L (.inr (.inl x) :: st) h r := by
  obtain ⟨p, l, e, R, s, m, args, below, meth, c, w⟩ := κ
  obtain ⟨hx, hb, hml, hr, hown, hts, hlk, hfr, hlo, hw, hK, hC, hN⟩ := X
  intro H locs ls hP hS hl
  exact lv_l2i hx hb hd rfl (K H locs ls hP hS hl)
theorem J_i2b (X : OK κ cc nL ret own lv) {x : Int32} (hd : decode cc pc = .ok (.i2b, 1)) (K : J κ (pc + 1) L (.inl x.toInt8.toInt32 :: st) h r) : J κ pc L (.inl x :: st) h r := by
  obtain ⟨p, l, e, R, s, m, args, below, meth, c, w⟩ := κ
  obtain ⟨hx, hb, hml, hr, hown, hts, hlk, hfr, hlo, hw, hK, hC, hN⟩ := X
  intro H locs ls hP hS hl
  exact lv_i2b hx hb hd rfl (K H locs ls hP hS hl)
theorem J_dup (X : OK κ cc nL ret own lv) {a : cv} (ha : isL a = false) (hd : decode cc pc = .ok (.dup, 1)) (K : J κ (pc + 1) L (a :: a :: st) h r) : J κ pc L (a :: st) h r := by
  obtain ⟨p, l, e, R, s, m, args, below, meth, c, w⟩ := κ
  obtain ⟨hx, hb, hml, hr, hown, hts, hlk, hfr, hlo, hw, hK, hC, hN⟩ := X
  intro H locs ls hP hS hl
  exact lv_dup hx hb hd (tv_cat1 w a ha) (K H locs ls hP hS hl)
theorem J_pop (X : OK κ cc nL ret own lv) {a : cv} (ha : isL a = false) (hd : decode cc pc = .ok (.pop, 1)) (K : J κ (pc + 1) L st h r) : J κ pc L (a :: st) h r := by
  obtain ⟨p, l, e, R, s, m, args, below, meth, c, w⟩ := κ
  obtain ⟨hx, hb, hml, hr, hown, hts, hlk, hfr, hlo, hw, hK, hC, hN⟩ := X
  intro H locs ls hP hS hl
  exact lv_pop hx hb hd (tv_cat1 w a ha) (K H locs ls hP hS hl)
theorem J_dup2 (X : OK κ cc nL ret own lv) {a b : cv} (ha : isL a = false) (hb2 : isL b = false) (hd : decode cc pc = .ok (.dup2, 1)) (K : J κ (pc + 1) L (a :: b :: a :: b :: st) h r) : J κ pc L (a :: b :: st) h r := by
  obtain ⟨p, l, e, R, s, m, args, below, meth, c, w⟩ := κ
  obtain ⟨hx, hb, hml, hr, hown, hts, hlk, hfr, hlo, hw, hK, hC, hN⟩ := X
  intro H locs ls hP hS hl
  exact lv_dup2_11 hx hb hd (tv_cat1 w a ha) (tv_cat1 w b hb2) (K H locs ls hP hS hl)
theorem J_lcmp (X : OK κ cc nL ret own lv) {x y : Int64} (hd : decode cc pc = .ok (.lcmp, 1)) (K : J κ (pc + 1) L (.inl (lg_cmp x y) :: st) h r) : J κ pc L (.inr (.inl y) :: .inr (.inl x) :: st) h r := by
  obtain ⟨p, l, e, R, s, m, args, below, meth, c, w⟩ := κ
  obtain ⟨hx, hb, hml, hr, hown, hts, hlk, hfr, hlo, hw, hK, hC, hN⟩ := X
  intro H locs ls hP hS hl
  exact W.lcmp hx hb hd (K H locs ls hP hS hl)
theorem J_if_eq (X : OK κ cc nL ret own lv) {x : Int32} {off : Int} {tgt : Nat} (hd : decode cc pc = .ok (.ifCond .eq off, 3)) (ht : (pc : Int) + off = (tgt : Int)) (kt : x = 0 → J κ tgt L st h r) (kf : ¬ x = 0 → J κ (pc + 3) L st h r) : J κ pc L (.inl x :: st) h r := by
  obtain ⟨p, l, e, R, s, m, args, below, meth, c, w⟩ := κ
  obtain ⟨hx, hb, hml, hr, hown, hts, hlk, hfr, hlo, hw, hK, hC, hN⟩ := X
  intro H locs ls hP hS hl
  exact lv_if_eq hx hb hd ht (fun q => kt q H locs ls hP hS hl) (fun q => kf q H locs ls hP hS hl)
theorem J_if_ne (X : OK κ cc nL ret own lv) {x : Int32} {off : Int} {tgt : Nat} (hd : decode cc pc = .ok (.ifCond .ne off, 3)) (ht : (pc : Int) + off = (tgt : Int)) (kt : ¬ x = 0 → J κ tgt L st h r) (kf : x = 0 → J κ (pc + 3) L st h r) : J κ pc L (.inl x :: st) h r := by
  obtain ⟨p, l, e, R, s, m, args, below, meth, c, w⟩ := κ
  obtain ⟨hx, hb, hml, hr, hown, hts, hlk, hfr, hlo, hw, hK, hC, hN⟩ := X
  intro H locs ls hP hS hl
  exact lv_if_ne hx hb hd ht (fun q => kt q H locs ls hP hS hl) (fun q => kf q H locs ls hP hS hl)
theorem J_if_lt (X : OK κ cc nL ret own lv) {x : Int32} {off : Int} {tgt : Nat} (hd : decode cc pc = .ok (.ifCond .lt off, 3)) (ht : (pc : Int) + off = (tgt : Int)) (kt : x < 0 → J κ tgt L st h r) (kf : ¬ x < 0 → J κ (pc + 3) L st h r) : J κ pc L (.inl x :: st) h r := by
  obtain ⟨p, l, e, R, s, m, args, below, meth, c, w⟩ := κ
  obtain ⟨hx, hb, hml, hr, hown, hts, hlk, hfr, hlo, hw, hK, hC, hN⟩ := X
  intro H locs ls hP hS hl
  exact lv_if_lt hx hb hd ht (fun q => kt q H locs ls hP hS hl) (fun q => kf q H locs ls hP hS hl)
theorem J_if_ge (X : OK κ cc nL ret own lv) {x : Int32} {off : Int} {tgt : Nat} (hd : decode cc pc = .ok (.ifCond .ge off, 3)) (ht : (pc : Int) + off = (tgt : Int)) (kt : 0 ≤ x → J κ tgt L st h r) (kf : ¬ 0 ≤ x → J κ (pc + 3) L st h r) : J κ pc L (.inl x :: st) h r := by
  obtain ⟨p, l, e, R, s, m, args, below, meth, c, w⟩ := κ
  obtain ⟨hx, hb, hml, hr, hown, hts, hlk, hfr, hlo, hw, hK, hC, hN⟩ := X
  intro H locs ls hP hS hl
  exact lv_if_ge hx hb hd ht (fun q => kt q H locs ls hP hS hl) (fun q => kf q H locs ls hP hS hl)
theorem J_if_gt (X : OK κ cc nL ret own lv) {x : Int32} {off : Int} {tgt : Nat} (hd : decode cc pc = .ok (.ifCond .gt off, 3)) (ht : (pc : Int) + off = (tgt : Int)) (kt : 0 < x → J κ tgt L st h r) (kf : ¬ 0 < x → J κ (pc + 3) L st h r) : J κ pc L (.inl x :: st) h r := by
  obtain ⟨p, l, e, R, s, m, args, below, meth, c, w⟩ := κ
  obtain ⟨hx, hb, hml, hr, hown, hts, hlk, hfr, hlo, hw, hK, hC, hN⟩ := X
  intro H locs ls hP hS hl
  exact lv_if_gt hx hb hd ht (fun q => kt q H locs ls hP hS hl) (fun q => kf q H locs ls hP hS hl)
theorem J_if_le (X : OK κ cc nL ret own lv) {x : Int32} {off : Int} {tgt : Nat} (hd : decode cc pc = .ok (.ifCond .le off, 3)) (ht : (pc : Int) + off = (tgt : Int)) (kt : x ≤ 0 → J κ tgt L st h r) (kf : ¬ x ≤ 0 → J κ (pc + 3) L st h r) : J κ pc L (.inl x :: st) h r := by
  obtain ⟨p, l, e, R, s, m, args, below, meth, c, w⟩ := κ
  obtain ⟨hx, hb, hml, hr, hown, hts, hlk, hfr, hlo, hw, hK, hC, hN⟩ := X
  intro H locs ls hP hS hl
  exact lv_if_le hx hb hd ht (fun q => kt q H locs ls hP hS hl) (fun q => kf q H locs ls hP hS hl)
theorem J_icmp_eq (X : OK κ cc nL ret own lv) {x y : Int32} {off : Int} {tgt : Nat} (hd : decode cc pc = .ok (.if_icmp .eq off, 3)) (ht : (pc : Int) + off = (tgt : Int)) (kt : x = y → J κ tgt L st h r) (kf : ¬ x = y → J κ (pc + 3) L st h r) : J κ pc L (.inl y :: .inl x :: st) h r := by
  obtain ⟨p, l, e, R, s, m, args, below, meth, c, w⟩ := κ
  obtain ⟨hx, hb, hml, hr, hown, hts, hlk, hfr, hlo, hw, hK, hC, hN⟩ := X
  intro H locs ls hP hS hl
  exact lv_icmp_eq hx hb hd ht (fun q => kt q H locs ls hP hS hl) (fun q => kf q H locs ls hP hS hl)
theorem J_icmp_ne (X : OK κ cc nL ret own lv) {x y : Int32} {off : Int} {tgt : Nat} (hd : decode cc pc = .ok (.if_icmp .ne off, 3)) (ht : (pc : Int) + off = (tgt : Int)) (kt : ¬ x = y → J κ tgt L st h r) (kf : x = y → J κ (pc + 3) L st h r) : J κ pc L (.inl y :: .inl x :: st) h r := by
  obtain ⟨p, l, e, R, s, m, args, below, meth, c, w⟩ := κ
  obtain ⟨hx, hb, hml, hr, hown, hts, hlk, hfr, hlo, hw, hK, hC, hN⟩ := X
  intro H locs ls hP hS hl
  exact lv_icmp_ne hx hb hd ht (fun q => kt q H locs ls hP hS hl) (fun q => kf q H locs ls hP hS hl)
theorem J_icmp_lt (X : OK κ cc nL ret own lv) {x y : Int32} {off : Int} {tgt : Nat} (hd : decode cc pc = .ok (.if_icmp .lt off, 3)) (ht : (pc : Int) + off = (tgt : Int)) (kt : x < y → J κ tgt L st h r) (kf : ¬ x < y → J κ (pc + 3) L st h r) : J κ pc L (.inl y :: .inl x :: st) h r := by
  obtain ⟨p, l, e, R, s, m, args, below, meth, c, w⟩ := κ
  obtain ⟨hx, hb, hml, hr, hown, hts, hlk, hfr, hlo, hw, hK, hC, hN⟩ := X
  intro H locs ls hP hS hl
  exact lv_icmp_lt hx hb hd ht (fun q => kt q H locs ls hP hS hl) (fun q => kf q H locs ls hP hS hl)
theorem J_icmp_ge (X : OK κ cc nL ret own lv) {x y : Int32} {off : Int} {tgt : Nat} (hd : decode cc pc = .ok (.if_icmp .ge off, 3)) (ht : (pc : Int) + off = (tgt : Int)) (kt : y ≤ x → J κ tgt L st h r) (kf : ¬ y ≤ x → J κ (pc + 3) L st h r) : J κ pc L (.inl y :: .inl x :: st) h r := by
  obtain ⟨p, l, e, R, s, m, args, below, meth, c, w⟩ := κ
  obtain ⟨hx, hb, hml, hr, hown, hts, hlk, hfr, hlo, hw, hK, hC, hN⟩ := X
  intro H locs ls hP hS hl
  exact lv_icmp_ge hx hb hd ht (fun q => kt q H locs ls hP hS hl) (fun q => kf q H locs ls hP hS hl)
theorem J_icmp_gt (X : OK κ cc nL ret own lv) {x y : Int32} {off : Int} {tgt : Nat} (hd : decode cc pc = .ok (.if_icmp .gt off, 3)) (ht : (pc : Int) + off = (tgt : Int)) (kt : y < x → J κ tgt L st h r) (kf : ¬ y < x → J κ (pc + 3) L st h r) : J κ pc L (.inl y :: .inl x :: st) h r := by
  obtain ⟨p, l, e, R, s, m, args, below, meth, c, w⟩ := κ
  obtain ⟨hx, hb, hml, hr, hown, hts, hlk, hfr, hlo, hw, hK, hC, hN⟩ := X
  intro H locs ls hP hS hl
  exact lv_icmp_gt hx hb hd ht (fun q => kt q H locs ls hP hS hl) (fun q => kf q H locs ls hP hS hl)
theorem J_icmp_le (X : OK κ cc nL ret own lv) {x y : Int32} {off : Int} {tgt : Nat} (hd : decode cc pc = .ok (.if_icmp .le off, 3)) (ht : (pc : Int) + off = (tgt : Int)) (kt : x ≤ y → J κ tgt L st h r) (kf : ¬ x ≤ y → J κ (pc + 3) L st h r) : J κ pc L (.inl y :: .inl x :: st) h r := by
  obtain ⟨p, l, e, R, s, m, args, below, meth, c, w⟩ := κ
  obtain ⟨hx, hb, hml, hr, hown, hts, hlk, hfr, hlo, hw, hK, hC, hN⟩ := X
  intro H locs ls hP hS hl
  exact lv_icmp_le hx hb hd ht (fun q => kt q H locs ls hP hS hl) (fun q => kf q H locs ls hP hS hl)
theorem J_goto (X : OK κ cc nL ret own lv) {off : Int} {tgt : Nat} (hd : decode cc pc = .ok (.goto off, 3)) (ht : (pc : Int) + off = (tgt : Int)) (K : J κ tgt L st h r) : J κ pc L st h r := by
  obtain ⟨p, l, e, R, s, m, args, below, meth, c, w⟩ := κ
  obtain ⟨hx, hb, hml, hr, hown, hts, hlk, hfr, hlo, hw, hK, hC, hN⟩ := X
  intro H locs ls hP hS hl
  exact lv_goto hx hb hd ht (K H locs ls hP hS hl)
theorem J_tsIn (X : OK κ cc nL ret own lv) {dflt lo hi : Int} {offs : Array Int} {len : Nat} {x : Int32} {off : Int} {tgt : Nat} (hd : decode cc pc = .ok (.tableswitch dflt lo hi offs, len)) (v : Int) (hv : x.toInt = v) (h1 : ¬ v < lo) (h2 : ¬ hi < v) (ho : offs[(v - lo).toNat]? = some off) (ht : (pc : Int) + off = (tgt : Int)) (K : J κ tgt L st h r) : J κ pc L (.inl x :: st) h r := by
  obtain ⟨p, l, e, R, s, m, args, below, meth, c, w⟩ := κ
  obtain ⟨hx, hb, hml, hr, hown, hts, hlk, hfr, hlo, hw, hK, hC, hN⟩ := X
  intro H locs ls hP hS hl
  subst hv
  exact lv_tableIn hx hb hd h1 h2 ho ht (K H locs ls hP hS hl)
theorem J_tsOut (X : OK κ cc nL ret own lv) {dflt lo hi : Int} {offs : Array Int} {len : Nat} {x : Int32} {tgt : Nat} (hd : decode cc pc = .ok (.tableswitch dflt lo hi offs, len)) (h1 : x.toInt < lo ∨ hi < x.toInt) (ht : (pc : Int) + dflt = (tgt : Int)) (K : J κ tgt L st h r) : J κ pc L (.inl x :: st) h r := by
  obtain ⟨p, l, e, R, s, m, args, below, meth, c, w⟩ := κ
  obtain ⟨hx, hb, hml, hr, hown, hts, hlk, hfr, hlo, hw, hK, hC, hN⟩ := X
  intro H locs ls hP hS hl
  exact lv_tableOut hx hb hd h1 ht (K H locs ls hP hS hl)
theorem J_ifnonnull (X : OK κ cc nL ret own lv) {x : Nat} {off : Int} {tgt : Nat} (hd : decode cc pc = .ok (.ifnonnull off, 3)) (ht : (pc : Int) + off = (tgt : Int)) (kt : ¬ x = 0 → J κ tgt L st h r) (kf : x = 0 → J κ (pc + 3) L st h r) : J κ pc L (.inr (.inr x) :: st) h r := by
  obtain ⟨p, l, e, R, s, m, args, below, meth, c, w⟩ := κ
  obtain ⟨hx, hb, hml, hr, hown, hts, hlk, hfr, hlo, hw, hK, hC, hN⟩ := X
  intro H locs ls hP hS hl
  rw [List.map_cons]
  by_cases h0 : x = 0
  · subst h0
    exact lv_ifnonnullN hx hb hd (kf rfl H locs ls hP hS hl)
  · have e : tv w (.inr (.inr x)) = .ref (w.2.2 x) := by show va_rf (rr w.2.2 x) = _; unfold rr; rw [if_neg h0]; rfl
    rw [e]
    exact lv_ifnonnull hx hb hd ht (kt h0 H locs ls hP hS hl)
theorem J_getI (X : OK κ cc nL ret own lv) {a ci k idx z : Nat} (ha : lay a = some (.inl ci)) (hf : FL own idx ci k (0, z)) (hd : decode cc pc = .ok (.getfield idx, 3)) (K : J κ (pc + 3) L (.inl (h.1 a k) :: st) h r) : J κ pc L (.inr (.inr a) :: st) h r := by
  obtain ⟨p, l, e, R, s, m, args, below, meth, c, w⟩ := κ
  obtain ⟨hx, hb, hml, hr, hown, hts, hlk, hfr, hlo, hw, hK, hC, hN⟩ := X
  intro H locs ls hP hS hl
  exact J_get0 hx hb hts hown hK hP ha hf hd (K H locs ls hP hS hl)
theorem J_getL (X : OK κ cc nL ret own lv) {a ci k idx z : Nat} (ha : lay a = some (.inl ci)) (hf : FL own idx ci k (1, z)) (hd : decode cc pc = .ok (.getfield idx, 3)) (K : J κ (pc + 3) L (.inr (.inl (h.2.1 a k)) :: st) h r) : J κ pc L (.inr (.inr a) :: st) h r := by
  obtain ⟨p, l, e, R, s, m, args, below, meth, c, w⟩ := κ
  obtain ⟨hx, hb, hml, hr, hown, hts, hlk, hfr, hlo, hw, hK, hC, hN⟩ := X
  intro H locs ls hP hS hl
  exact J_get0 hx hb hts hown hK hP ha hf hd (K H locs ls hP hS hl)
theorem J_getF (X : OK κ cc nL ret own lv) {a b ci k idx o : Nat} (ha : lay a = some (.inl ci)) (hf : FL own idx ci k (2, o)) (hb2 : a + o = b) (hd : decode cc pc = .ok (.getfield idx, 3)) (K : J κ (pc + 3) L (.inr (.inr b) :: st) h r) : J κ pc L (.inr (.inr a) :: st) h r := by
  obtain ⟨p, l, e, R, s, m, args, below, meth, c, w⟩ := κ
  obtain ⟨hx, hb, hml, hr, hown, hts, hlk, hfr, hlo, hw, hK, hC, hN⟩ := X
  intro H locs ls hP hS hl
  subst hb2
  have e : tv w (.inr (.inr (a + o))) = .ref (w.2.2 (a + o)) := tv_ref (by have := (lay_in ha).1; omega)
  have K := K H locs ls hP hS hl
  rw [List.map_cons, e] at K
  exact J_get0 hx hb hts hown hK hP ha hf hd K
theorem J_getR (X : OK κ cc nL ret own lv) {a ci k idx z : Nat} (ha : lay a = some (.inl ci)) (hf : FL own idx ci k (3, z)) (hd : decode cc pc = .ok (.getfield idx, 3)) (K : J κ (pc + 3) L (.inr (.inr (h.2.2 a k)) :: st) h r) : J κ pc L (.inr (.inr a) :: st) h r := by
  obtain ⟨p, l, e, R, s, m, args, below, meth, c, w⟩ := κ
  obtain ⟨hx, hb, hml, hr, hown, hts, hlk, hfr, hlo, hw, hK, hC, hN⟩ := X
  intro H locs ls hP hS hl
  exact J_get0 hx hb hts hown hK hP ha hf hd (K H locs ls hP hS hl)
theorem J_putI (X : OK κ cc nL ret own lv) {a ci k idx : Nat} {v : Int32} (ha : lay a = some (.inl ci)) (hf : FP own idx ci k (0, 0)) (hd : decode cc pc = .ok (.putfield idx, 3)) (K : J κ (pc + 3) L st (sI h a k v) r) : J κ pc L (.inl v :: .inr (.inr a) :: st) h r := by
  obtain ⟨p, l, e, R, s, m, args, below, meth, c, w⟩ := κ
  obtain ⟨hx, hb, hml, hr, hown, hts, hlk, hfr, hlo, hw, hK, hC, hN⟩ := X
  intro H locs ls hP hS hl
  exact J_put0 hx hb hts hown hK hw hP hS ha hf (v := tv w (.inl v)) (h' := sI h a k v) (by show Value.int ((sI h a k v).1 a k) = .int v; rw [sI_s]) (fun j p hj => sI_o hj) (fun q hq => sI_ne q hq) (fun ty ht => tyI ht) hd (fun H1 locs1 hP1 hS1 => K H1 locs1 ls hP1 hS1 hl)
theorem J_putZ (X : OK κ cc nL ret own lv) {a ci k idx : Nat} {v : Int32} (ha : lay a = some (.inl ci)) (hf : FP own idx ci k (0, 1)) (hz : isZ v = true) (hd : decode cc pc = .ok (.putfield idx, 3)) (K : J κ (pc + 3) L st (sI h a k v) r) : J κ pc L (.inl v :: .inr (.inr a) :: st) h r := by
  obtain ⟨p, l, e, R, s, m, args, below, meth, c, w⟩ := κ
  obtain ⟨hx, hb, hml, hr, hown, hts, hlk, hfr, hlo, hw, hK, hC, hN⟩ := X
  intro H locs ls hP hS hl
  exact J_put0 hx hb hts hown hK hw hP hS ha hf (v := tv w (.inl v)) (h' := sI h a k v) (by show Value.int ((sI h a k v).1 a k) = .int v; rw [sI_s]) (fun j p hj => sI_o hj) (fun q hq => sI_ne q hq) (fun ty ht => tyZ hz ht) hd (fun H1 locs1 hP1 hS1 => K H1 locs1 ls hP1 hS1 hl)
theorem J_putL (X : OK κ cc nL ret own lv) {a ci k idx : Nat} {v : Int64} (ha : lay a = some (.inl ci)) (hf : FP own idx ci k (1, 0)) (hd : decode cc pc = .ok (.putfield idx, 3)) (K : J κ (pc + 3) L st (sL h a k v) r) : J κ pc L (.inr (.inl v) :: .inr (.inr a) :: st) h r := by
  obtain ⟨p, l, e, R, s, m, args, below, meth, c, w⟩ := κ
  obtain ⟨hx, hb, hml, hr, hown, hts, hlk, hfr, hlo, hw, hK, hC, hN⟩ := X
  intro H locs ls hP hS hl
  exact J_put0 hx hb hts hown hK hw hP hS ha hf (v := tv w (.inr (.inl v))) (h' := sL h a k v) (by show Value.long ((sL h a k v).2.1 a k) = .long v; rw [sL_s]) (fun j p hj => sL_o hj) (fun q hq => sL_ne q hq) (fun ty ht => tyL ht) hd (fun H1 locs1 hP1 hS1 => K H1 locs1 ls hP1 hS1 hl)
theorem J_putR (X : OK κ cc nL ret own lv) {a ci k idx : Nat} {v : Nat} (ha : lay a = some (.inl ci)) (hf : FP own idx ci k (3, 0)) (hd : decode cc pc = .ok (.putfield idx, 3)) (K : J κ (pc + 3) L st (sR h a k v) r) : J κ pc L (.inr (.inr v) :: .inr (.inr a) :: st) h r := by
  obtain ⟨p, l, e, R, s, m, args, below, meth, c, w⟩ := κ
  obtain ⟨hx, hb, hml, hr, hown, hts, hlk, hfr, hlo, hw, hK, hC, hN⟩ := X
  intro H locs ls hP hS hl
  exact J_put0 hx hb hts hown hK hw hP hS ha hf (v := tv w (.inr (.inr v))) (h' := sR h a k v) (by show va_rf (rr w.2.2 ((sR h a k v).2.2 a k)) = _; rw [sR_s]; rfl) (fun j p hj => sR_o hj) (fun q hq => sR_ne q hq) (fun ty ht => tyR ht) hd (fun H1 locs1 hP1 hS1 => K H1 locs1 ls hP1 hS1 hl)
theorem J_iaload (X : OK κ cc nL ret own lv) {a n : Nat} {i : Int32} (ha : lay a = some (.inr (0, n))) (hi : inb i n = true) (hd : decode cc pc = .ok (.iaload, 1)) (K : J κ (pc + 1) L (.inl (h.1 a i.toNatClampNeg) :: st) h r) : J κ pc L (.inl i :: .inr (.inr a) :: st) h r := by
  obtain ⟨p, l, e, R, s, m, args, below, meth, c, w⟩ := κ
  obtain ⟨hx, hb, hml, hr, hown, hts, hlk, hfr, hlo, hw, hK, hC, hN⟩ := X
  intro H locs ls hP hS hl
  have e : tv w (.inr (.inr a)) = .ref (w.2.2 a) := tv_ref (by have := (lay_in ha).1; omega)
  rw [List.map_cons, List.map_cons, e]
  exact va_iald hx hb hK hP (a - 1) 0 ((wd_at ha).trans (by rw [cel_a ha]; rfl)) rfl (inb_in hi) hd (K H locs ls hP hS hl)
theorem J_laload (X : OK κ cc nL ret own lv) {a n : Nat} {i : Int32} (ha : lay a = some (.inr (1, n))) (hi : inb i n = true) (hd : decode cc pc = .ok (.laload, 1)) (K : J κ (pc + 1) L (.inr (.inl (h.2.1 a i.toNatClampNeg)) :: st) h r) : J κ pc L (.inl i :: .inr (.inr a) :: st) h r := by
  obtain ⟨p, l, e, R, s, m, args, below, meth, c, w⟩ := κ
  obtain ⟨hx, hb, hml, hr, hown, hts, hlk, hfr, hlo, hw, hK, hC, hN⟩ := X
  intro H locs ls hP hS hl
  have e : tv w (.inr (.inr a)) = .ref (w.2.2 a) := tv_ref (by have := (lay_in ha).1; omega)
  rw [List.map_cons, List.map_cons, e]
  exact va_lald hx hb hK hP (a - 1) 1 ((wd_at ha).trans (by rw [cel_a ha]; rfl)) rfl (inb_in hi) hd (K H locs ls hP hS hl)
theorem J_baload (X : OK κ cc nL ret own lv) {a n : Nat} {i : Int32} (ha : lay a = some (.inr (2, n))) (hi : inb i n = true) (hd : decode cc pc = .ok (.baload, 1)) (K : J κ (pc + 1) L (.inl (h.1 a i.toNatClampNeg) :: st) h r) : J κ pc L (.inl i :: .inr (.inr a) :: st) h r := by
  obtain ⟨p, l, e, R, s, m, args, below, meth, c, w⟩ := κ
  obtain ⟨hx, hb, hml, hr, hown, hts, hlk, hfr, hlo, hw, hK, hC, hN⟩ := X
  intro H locs ls hP hS hl
  have e : tv w (.inr (.inr a)) = .ref (w.2.2 a) := tv_ref (by have := (lay_in ha).1; omega)
  rw [List.map_cons, List.map_cons, e]
  exact va_bald hx hb hK hP (a - 1) 2 ((wd_at ha).trans (by rw [cel_a ha]; rfl)) rfl (inb_in hi) hd (K H locs ls hP hS hl)
theorem J_zaload (X : OK κ cc nL ret own lv) {a n : Nat} {i : Int32} (ha : lay a = some (.inr (3, n))) (hi : inb i n = true) (hd : decode cc pc = .ok (.baload, 1)) (K : J κ (pc + 1) L (.inl (h.1 a i.toNatClampNeg) :: st) h r) : J κ pc L (.inl i :: .inr (.inr a) :: st) h r := by
  obtain ⟨p, l, e, R, s, m, args, below, meth, c, w⟩ := κ
  obtain ⟨hx, hb, hml, hr, hown, hts, hlk, hfr, hlo, hw, hK, hC, hN⟩ := X
  intro H locs ls hP hS hl
  have e : tv w (.inr (.inr a)) = .ref (w.2.2 a) := tv_ref (by have := (lay_in ha).1; omega)
  rw [List.map_cons, List.map_cons, e]
  exact va_zald hx hb hK hP (a - 1) 3 ((wd_at ha).trans (by rw [cel_a ha]; rfl)) rfl (inb_in hi) hd (K H locs ls hP hS hl)
theorem J_aaloadR (X : OK κ cc nL ret own lv) {a n : Nat} {i : Int32} (ha : lay a = some (.inr (4, n))) (hi : inb i n = true) (hd : decode cc pc = .ok (.aaload, 1)) (K : J κ (pc + 1) L (.inr (.inr (a + 1 + 2 * i.toNatClampNeg)) :: st) h r) : J κ pc L (.inl i :: .inr (.inr a) :: st) h r := by
  obtain ⟨p, l, e, R, s, m, args, below, meth, c, w⟩ := κ
  obtain ⟨hx, hb, hml, hr, hown, hts, hlk, hfr, hlo, hw, hK, hC, hN⟩ := X
  intro H locs ls hP hS hl
  have e : tv w (.inr (.inr a)) = .ref (w.2.2 a) := tv_ref (by have := (lay_in ha).1; omega)
  have e2 : tv w (.inr (.inr (a + 1 + 2 * i.toNatClampNeg))) = va_rf (some (w.2.2 (a + 1 + 2 * i.toNatClampNeg))) := tv_ref (by omega)
  have K := K H locs ls hP hS hl
  rw [List.map_cons, e2] at K
  rw [List.map_cons, List.map_cons, e]
  exact va_aldq hx hb hK hP (a - 1) 4 ((wd_at ha).trans (by rw [cel_a ha]; rfl)) rfl (inb_in hi) hd K
theorem J_aaloadM (X : OK κ cc nL ret own lv) {a n : Nat} {i : Int32} (ha : lay a = some (.inr (5, n))) (hi : inb i n = true) (hd : decode cc pc = .ok (.aaload, 1)) (K : J κ (pc + 1) L (.inr (.inr (a + 1 + 35 * i.toNatClampNeg)) :: st) h r) : J κ pc L (.inl i :: .inr (.inr a) :: st) h r := by
  obtain ⟨p, l, e, R, s, m, args, below, meth, c, w⟩ := κ
  obtain ⟨hx, hb, hml, hr, hown, hts, hlk, hfr, hlo, hw, hK, hC, hN⟩ := X
  intro H locs ls hP hS hl
  have e : tv w (.inr (.inr a)) = .ref (w.2.2 a) := tv_ref (by have := (lay_in ha).1; omega)
  have e2 : tv w (.inr (.inr (a + 1 + 35 * i.toNatClampNeg))) = va_rf (some (w.2.2 (a + 1 + 35 * i.toNatClampNeg))) := tv_ref (by omega)
  have K := K H locs ls hP hS hl
  rw [List.map_cons, e2] at K
  rw [List.map_cons, List.map_cons, e]
  exact va_aldq hx hb hK hP (a - 1) 5 ((wd_at ha).trans (by rw [cel_a ha]; rfl)) rfl (inb_in hi) hd K
theorem J_iastore (X : OK κ cc nL ret own lv) {a n : Nat} {i : Int32} {x : Int32} (ha : lay a = some (.inr (0, n))) (hi : inb i n = true) (hd : decode cc pc = .ok (.iastore, 1)) (K : J κ (pc + 1) L st (sI h a i.toNatClampNeg x) r) : J κ pc L (.inl x :: .inl i :: .inr (.inr a) :: st) h r := by
  obtain ⟨p, l, e, R, s, m, args, below, meth, c, w⟩ := κ
  obtain ⟨hx, hb, hml, hr, hown, hts, hlk, hfr, hlo, hw, hK, hC, hN⟩ := X
  intro H locs ls hP hS hl
  have e : tv w (.inr (.inr a)) = .ref (w.2.2 a) := tv_ref (by have := (lay_in ha).1; omega)
  rw [List.map_cons, List.map_cons, List.map_cons, e]
  exact va_iast hx hb hK hP (wd_D hw h) hS (a - 1) 0 ((wd_at ha).trans (by rw [cel_a ha]; rfl)) rfl (inb_in hi) hd (fun H1 locs1 hP1 hD1 hS1 => K H1 locs1 ls (by rw [i_arr ha] at hP1; exact hP1) hS1 hl)
theorem J_lastore (X : OK κ cc nL ret own lv) {a n : Nat} {i : Int32} {x : Int64} (ha : lay a = some (.inr (1, n))) (hi : inb i n = true) (hd : decode cc pc = .ok (.lastore, 1)) (K : J κ (pc + 1) L st (sL h a i.toNatClampNeg x) r) : J κ pc L (.inr (.inl x) :: .inl i :: .inr (.inr a) :: st) h r := by
  obtain ⟨p, l, e, R, s, m, args, below, meth, c, w⟩ := κ
  obtain ⟨hx, hb, hml, hr, hown, hts, hlk, hfr, hlo, hw, hK, hC, hN⟩ := X
  intro H locs ls hP hS hl
  have e : tv w (.inr (.inr a)) = .ref (w.2.2 a) := tv_ref (by have := (lay_in ha).1; omega)
  rw [List.map_cons, List.map_cons, List.map_cons, e]
  exact va_last hx hb hK hP (wd_D hw h) hS (a - 1) 1 ((wd_at ha).trans (by rw [cel_a ha]; rfl)) rfl (inb_in hi) hd (fun H1 locs1 hP1 hD1 hS1 => K H1 locs1 ls (by rw [l_arr ha] at hP1; exact hP1) hS1 hl)
theorem J_bastore (X : OK κ cc nL ret own lv) {a n : Nat} {i : Int32} {x : Int32} (ha : lay a = some (.inr (2, n))) (hi : inb i n = true) (hd : decode cc pc = .ok (.bastore, 1)) (K : J κ (pc + 1) L st (sI h a i.toNatClampNeg (vp_nar .byte x)) r) : J κ pc L (.inl x :: .inl i :: .inr (.inr a) :: st) h r := by
  obtain ⟨p, l, e, R, s, m, args, below, meth, c, w⟩ := κ
  obtain ⟨hx, hb, hml, hr, hown, hts, hlk, hfr, hlo, hw, hK, hC, hN⟩ := X
  intro H locs ls hP hS hl
  have e : tv w (.inr (.inr a)) = .ref (w.2.2 a) := tv_ref (by have := (lay_in ha).1; omega)
  rw [List.map_cons, List.map_cons, List.map_cons, e]
  exact va_bast hx hb hK hP (wd_D hw h) hS (a - 1) 2 ((wd_at ha).trans (by rw [cel_a ha]; rfl)) rfl (inb_in hi) hd (fun H1 locs1 hP1 hD1 hS1 => K H1 locs1 ls (by rw [b_arr ha] at hP1; exact hP1) hS1 hl)
theorem J_zastore (X : OK κ cc nL ret own lv) {a n : Nat} {i : Int32} {x : Int32} (ha : lay a = some (.inr (3, n))) (hi : inb i n = true) (hd : decode cc pc = .ok (.bastore, 1)) (K : J κ (pc + 1) L st (sI h a i.toNatClampNeg (vp_nar .boolean x)) r) : J κ pc L (.inl x :: .inl i :: .inr (.inr a) :: st) h r := by
  obtain ⟨p, l, e, R, s, m, args, below, meth, c, w⟩ := κ
  obtain ⟨hx, hb, hml, hr, hown, hts, hlk, hfr, hlo, hw, hK, hC, hN⟩ := X
  intro H locs ls hP hS hl
  have e : tv w (.inr (.inr a)) = .ref (w.2.2 a) := tv_ref (by have := (lay_in ha).1; omega)
  rw [List.map_cons, List.map_cons, List.map_cons, e]
  exact va_zast hx hb hK hP (wd_D hw h) hS (a - 1) 3 ((wd_at ha).trans (by rw [cel_a ha]; rfl)) rfl (inb_in hi) hd (fun H1 locs1 hP1 hD1 hS1 => K H1 locs1 ls (by rw [z_arr ha] at hP1; exact hP1) hS1 hl)
theorem J_alen (X : OK κ cc nL ret own lv) {a ty n : Nat} {v : Int32} (ha : lay a = some (.inr (ty, n))) (hty : ty < 6) (hv : Int32.ofNat n = v) (hd : decode cc pc = .ok (.arraylength, 1)) (K : J κ (pc + 1) L (.inl v :: st) h r) : J κ pc L (.inr (.inr a) :: st) h r := by
  obtain ⟨p, l, e, R, s, m, args, below, meth, c, w⟩ := κ
  obtain ⟨hx, hb, hml, hr, hown, hts, hlk, hfr, hlo, hw, hK, hC, hN⟩ := X
  intro H locs ls hP hS hl
  have e : tv w (.inr (.inr a)) = .ref (w.2.2 a) := tv_ref (by have := (lay_in ha).1; omega)
  rw [List.map_cons, e]
  obtain ⟨t, ht⟩ : ∃ t, (tys w)[ty]? = some (w.2.1 ty, t) := by
    rcases (show ty = 0 ∨ ty = 1 ∨ ty = 2 ∨ ty = 3 ∨ ty = 4 ∨ ty = 5 by omega) with rfl | rfl | rfl | rfl | rfl | rfl <;> exact ⟨_, rfl⟩
  exact va_alen hx hb hK hP (a - 1) ty ((wd_at ha).trans (by rw [cel_a ha])) ht hv hd (K H locs ls hP hS hl)
theorem J_getK (X : OK κ cc nL ret own lv) {i idx : Nat} (hi : i < 16) (hf : Cond.fieldLink own idx "StruckWords$Keyword" (kwN.getD i "") "LStruckWords$Keyword;" ∈ tbl) (hd : decode cc pc = .ok (.getstatic idx, 3)) (K : J κ (pc + 3) L (.inr (.inr (300 + i)) :: st) h r) : J κ pc L st h r := by
  obtain ⟨p, l, e, R, s, m, args, below, meth, c, w⟩ := κ
  obtain ⟨hx, hb, hml, hr, hown, hts, hlk, hfr, hlo, hw, hK, hC, hN⟩ := X
  intro H locs ls hP hS hl
  have e : tv w (.inr (.inr (300 + i))) = .ref (w.2.2 (300 + i)) := tv_ref (by omega)
  have K := K H locs ls hP hS hl
  rw [List.map_cons, e] at K
  exact va_gets hx hb (hC.1.1 i hi).1 hS hown (hts _ hf) (fun _ q => q) hd K
theorem J_acmp_eq (X : OK κ cc nL ret own lv) {x y : Nat} {off : Int} {tgt : Nat} (ex : isKw x = true) (ey : isKw y = true) (hd : decode cc pc = .ok (.if_acmp .eq off, 3)) (ht : (pc : Int) + off = (tgt : Int)) (kt : x = y → J κ tgt L st h r) (kf : ¬ x = y → J κ (pc + 3) L st h r) : J κ pc L (.inr (.inr y) :: .inr (.inr x) :: st) h r := by
  obtain ⟨p, l, e, R, s, m, args, below, meth, c, w⟩ := κ
  obtain ⟨hx, hb, hml, hr, hown, hts, hlk, hfr, hlo, hw, hK, hC, hN⟩ := X
  intro H locs ls hP hS hl
  have q := kw_inj hC ex ey
  exact lv_acmp_eq hx hb hd ht (fun z => kt (q.mp z) H locs ls hP hS hl) (fun z => kf (fun y => z (q.mpr y)) H locs ls hP hS hl)
theorem J_acmp_ne (X : OK κ cc nL ret own lv) {x y : Nat} {off : Int} {tgt : Nat} (ex : isKw x = true) (ey : isKw y = true) (hd : decode cc pc = .ok (.if_acmp .ne off, 3)) (ht : (pc : Int) + off = (tgt : Int)) (kt : ¬ x = y → J κ tgt L st h r) (kf : x = y → J κ (pc + 3) L st h r) : J κ pc L (.inr (.inr y) :: .inr (.inr x) :: st) h r := by
  obtain ⟨p, l, e, R, s, m, args, below, meth, c, w⟩ := κ
  obtain ⟨hx, hb, hml, hr, hown, hts, hlk, hfr, hlo, hw, hK, hC, hN⟩ := X
  intro H locs ls hP hS hl
  have q := kw_inj hC ex ey
  exact lv_acmp_ne hx hb hd ht (fun z => kt (fun y => z (q.mpr y)) H locs ls hP hS hl) (fun z => kf (q.mp z) H locs ls hP hS hl)
theorem J_iret (X : OK κ cc nL (some .int) own lv) {v : Int32} (hd : decode cc pc = .ok (.ireturn, 1)) : J κ pc L [.inl v] h (some (.inl v), h) := by
  obtain ⟨p, l, e, R, s, m, args, below, meth, c, w⟩ := κ
  obtain ⟨hx, hb, hml, hr, hown, hts, hlk, hfr, hlo, hw, hK, hC, hN⟩ := X
  intro H locs ls hP hS hl
  exact W.iret hx hb hr (fun t ht hW => ⟨rfl, WS_end hP hS hK hw hC hN ht hW, hS.F ht⟩) hS.2.2 hd hlk
theorem J_zret (X : OK κ cc nL (some .boolean) own lv) {v : Int32} (hz : isZ v = true) (hd : decode cc pc = .ok (.ireturn, 1)) : J κ pc L [.inl v] h (some (.inl v), h) := by
  obtain ⟨p, l, e, R, s, m, args, below, meth, c, w⟩ := κ
  obtain ⟨hx, hb, hml, hr, hown, hts, hlk, hfr, hlo, hw, hK, hC, hN⟩ := X
  intro H locs ls hP hS hl
  exact W.zret hx hb hr (isZ_ok hz).1 (fun t ht hW => ⟨rfl, WS_end hP hS hK hw hC hN ht hW, hS.F ht⟩) hS.2.2 hd hlk
theorem J_lret (X : OK κ cc nL (some .long) own lv) {v : Int64} (hd : decode cc pc = .ok (.lreturn, 1)) : J κ pc L [.inr (.inl v)] h (some (.inr (.inl v)), h) := by
  obtain ⟨p, l, e, R, s, m, args, below, meth, c, w⟩ := κ
  obtain ⟨hx, hb, hml, hr, hown, hts, hlk, hfr, hlo, hw, hK, hC, hN⟩ := X
  intro H locs ls hP hS hl
  exact W.lret hx hb hr (fun t ht hW => ⟨rfl, WS_end hP hS hK hw hC hN ht hW, hS.F ht⟩) hS.2.2 hd hlk
theorem J_vret (X : OK κ cc nL (none) own lv)  (hd : decode cc pc = .ok (.return_, 1)) : J κ pc L [] h (none, h) := by
  obtain ⟨p, l, e, R, s, m, args, below, meth, c, w⟩ := κ
  obtain ⟨hx, hb, hml, hr, hown, hts, hlk, hfr, hlo, hw, hK, hC, hN⟩ := X
  intro H locs ls hP hS hl
  exact W.vret hx hb hr (fun t ht hW => ⟨rfl, WS_end hP hS hK hw hC hN ht hW, hS.F ht⟩) hS.2.2 hd hlk
theorem J_aret {rt : FieldType} (X : OK κ cc nL (some rt) own lv) (hrt : (∃ n, rt = .object n) ∨ ∃ t, rt = .array t) {v : Nat} (hd : decode cc pc = .ok (.areturn, 1)) : J κ pc L [.inr (.inr v)] h (some (.inr (.inr v)), h) := by
  obtain ⟨p, l, e, R, s, m, args, below, meth, c, w⟩ := κ
  obtain ⟨hx, hb, hml, hr, hown, hts, hlk, hfr, hlo, hw, hK, hC, hN⟩ := X
  intro H locs ls hP hS hl
  exact W.aret hx hb hr hrt (va_rf_or _) (fun t ht hW => ⟨rfl, WS_end hP hS hK hw hC hN ht hW, hS.F ht⟩) hS.2.2 hd hlk
def ctS : List cv → Nat
  | [] => 0
  | v :: l => (if isL v then 2 else 1) + ctS l
theorem ctS_ok (w : Wd) (st : List cv) : ((st.map (tv w)).map fun v => v.category).sum = ctS st := by
  induction st with
  | nil => rfl
  | cons v l ih =>
    rw [List.map_cons, List.map_cons, List.sum_cons, ih]
    show _ = (if isL v then 2 else 1) + ctS l
    congr 1
    cases hv : isL v with
    | false => exact tv_cat1 w v hv
    | true =>
      match v, hv with
      | .inr (.inl x), _ => rfl
/-- what the tables say of a method that is called -/
def Cal (y : MethodName) (cy : ByteArray) (ny : Nat) (ry : Option FieldType) (n : Nat) : Prop := Cond.code y cy ny ry ∈ tbl ∧ Cond.initialized y.cls ∈ tbl ∧ (y.cls ≠ "java/lang/invoke/MethodHandle" ∧ y.cls ≠ "java/lang/invoke/VarHandle" ∧ (parseMethodDescriptor y.desc).map (fun d => d.parameters.length) = some n) ∧ ny ≤ 45
theorem cal_B {s : State} {R : Room} {args : Array Value} {y : MethodName} {cy : ByteArray} {ny : Nat} {ry : Option FieldType} {n ky idx : Nat} (hts : ∀ q ∈ tbl, q.before args s = true) (hM : Cal y cy ny ry n) (hl : Cond.methodLink own idx y ∈ tbl) (hfr : lv ≤ R.frames) (hlo : 64 * lv ≤ R.locals) (hk : ky + 1 ≤ lv) : CallB R s args own idx y cy ny ry (wsA y cy ny ry) (rmk ky) 0 0 n := by
  obtain ⟨h1, h2, h3, h4⟩ := hM
  refine callB_of (ws' := tbl) n hts ?_ rfl rfl rfl (hts _ h2) (hts _ hl) h3 ⟨?_, ?_⟩
  · intro w hw
    have hm : w ∈ tbl := by
      rcases List.mem_cons.mp hw with h | h
      · rw [h]; exact h1
      · exact h
    exact ⟨hm, good_of_word (List.all_eq_true.mp tbl_good w hm)⟩
  · show ky + 1 ≤ R.frames
    omega
  · show 8 + (ny + 11) + 64 * ky ≤ R.locals
    omega
theorem WS_blind {w : Wd} {h : Hp} {av : List Value} : FrameBlind (va_Pc av (fun U => WS w h U)) := by
  intro a U g mk q
  obtain ⟨q0, qP, qK, qW, qC, qN⟩ := q
  exact ⟨q0, qP, va_K.moved (u := U) (U := U.calling g mk a) (Vm.Alike.refl U.vm) qK, qW, Cst.moved (u := U) (U := U.calling g mk a) (Vm.Alike.refl U.vm) qC, va_Nw.same (u := U) (U := U.calling g mk a) rfl rfl qN⟩
theorem J_run {p : Program} {l : Launch} {e : Env} {R : Room} {s : State} {m : MethodId} {args : Array Value} {below : List Frame} {meth : Method} {c : Code} {w : Wd} {H : Heap} {locs : List Loc} {ls : Array Slot} {stk st : List cv} {r1 : Option cv × Hp} {a : Array Value}
    (hr : va_Run p l e R s m args below meth c H locs 0 0 0 0 (F0 m pc ls (stk.map (tv w))) (st.map (tv w)) (Qe w r1 a) (Aw w)) (hS : va_S (Aw w) s.heap H locs) (hl : lv_has ls c.maxLocals (L.map (tl w)))
    (K : J (p, l, e, R, s, m, args, below, meth, c, w) (pc + 3) L (r1.1.toList ++ st) r1.2 r) : W p l e R s m args below meth c H locs 0 0 (MQ below (Qe w r) args s 0 0 (Aw w)) (F0 m pc ls (stk.map (tv w))) := by
  intro T hT X
  obtain ⟨v, st₀, t, T', L2, h0, X', hL, e1, e2, ⟨hv, hWS, hz, hk⟩, stp⟩ := hr T hT X
  cases hv
  rw [h0] at hz hk
  have hP1 : va_P w.1 vwCl (wd w r1.2) T'.heap := by rw [e1]; exact hWS.1
  obtain ⟨t2, a1, b1⟩ := K T'.heap (locs ++ L2) ls hP1 ⟨Nat.le_trans hS.1 (by rw [e1]; exact hz), fun q h1 h2 => by rw [e1, hk q (Nat.lt_of_lt_of_le h1 hS.1) h2]; exact hS.2.1 q h1 h2, fun q hq => by
      rcases List.mem_append.mp hq with h | h
      · exact hS.2.2 q h
      · exact hL q h⟩ hl T' rfl X'
  refine ⟨t2, stp t2 ?_, b1⟩
  have e3 : (r1.1.map (tv w)).toList ++ st.map (tv w) = (r1.1.toList ++ st).map (tv w) := by
    rw [List.map_append]
    cases r1.1 <;> rfl
  rw [e3]
  exact a1
theorem rev_map (w : Wd) (as : List cv) (a : Nat) (st : List cv) : (as.reverse ++ .inr (.inr a) :: st).map (tv w) = (as.map (tv w)).reverse ++ tv w (.inr (.inr a)) :: st.map (tv w) := by
  rw [List.map_append, List.map_reverse, List.map_cons]
theorem J_callV (X : OK κ cc nL ret own lv) {y : MethodName} {cy : ByteArray} {ny : Nat} {ry : Option FieldType} {n ky idx a ci : Nat} {q : vw_C} {as stk st2 : List cv} {r1 : Option cv × Hp} {h2 : Hp} (hd : decode cc pc = .ok (.invokevirtual idx, 3)) (hM : Cal y cy ny ry n) (hi : Cond.instanceMethod y ∈ tbl) (hs : Cond.selects y.cls y y ∈ tbl) (hl : Cond.methodLink own idx y ∈ tbl) (hk : ky + 1 ≤ lv) (ha : lay a = some (.inl ci)) (hq : vwCl[ci]? = some q) (hqc : q.1 = y.cls) (hc : ∀ l w, CT l w y cy ny ry ky (.inr (.inr a) :: as) h r1) (hn : as.length = n) (hstk : stk = as.reverse ++ .inr (.inr a) :: st) (hct : ctS st ≤ 8) (e1 : r1.1.toList ++ st = st2) (e2 : r1.2 = h2) (K : J κ (pc + 3) L st2 h2 r) : J κ pc L stk h r := by
  subst e1; subst e2
  obtain ⟨p, l, e, R, s, m, args, below, meth, c, w⟩ := κ
  obtain ⟨hx, hb, hml, hr, hown, hts, hlk, hfr, hlo, hw, hK, hC, hN⟩ := X
  intro H locs ls hP hS hls
  have e0 : tv w (.inr (.inr a)) = .ref (w.2.2 a) := tv_ref (by have := (lay_in ha).1; omega)
  have hcw : CallW R s args own y.cls idx y cy ny ry (wsA y cy ny ry) (rmk ky) 0 0 n := ⟨cal_B hts hM hl hfr hlo hk, hts _ hi, hts _ hs⟩
  have hrc := va_recv hK hP hq ((wd_at ha).trans (by rw [cel_o ha]))
  rw [hqc] at hrc
  have hr := va_runV (locs := locs) (cells := 0) (slots := 0) (meth := meth) (e := e) (below := below) (b := w.2.2 a) (As := as.map (tv w)) (rest := st.map (tv w)) (g := F0 m pc ls (stk.map (tv w))) ⟨hx, hb, hml, hown, hts⟩ (hc l w) hcw
    ⟨WS_blind, hrc, fun U hU hW => ⟨by rw [List.map_cons, e0], WS_end hP hS hK hw hC hN hU hW⟩⟩ rfl (by rw [List.length_map]; exact hn) (hls.1.trans hml) (by subst hstk; rw [rev_map, e0]) (by rw [ctS_ok]; show 2 * 0 + ctS st ≤ 8; omega) hd ⟨Nat.zero_le _, Nat.zero_le _⟩
  exact J_run hr hS hls K
theorem J_callS (X : OK κ cc nL ret own lv) {y : MethodName} {cy : ByteArray} {ny : Nat} {ry : Option FieldType} {n ky idx : Nat} {as stk st2 : List cv} {r1 : Option cv × Hp} {h2 : Hp} (hd : decode cc pc = .ok (.invokestatic idx, 3)) (hM : Cal y cy ny ry n) (hi : Cond.static y ∈ tbl) (hl : Cond.methodLink own idx y ∈ tbl) (hk : ky + 1 ≤ lv) (hc : ∀ l w, CT l w y cy ny ry ky as h r1) (hn : as.length = n) (hstk : stk = as.reverse ++ st) (hct : ctS st ≤ 8) (e1 : r1.1.toList ++ st = st2) (e2 : r1.2 = h2) (K : J κ (pc + 3) L st2 h2 r) : J κ pc L stk h r := by
  subst e1; subst e2
  obtain ⟨p, l, e, R, s, m, args, below, meth, c, w⟩ := κ
  obtain ⟨hx, hb, hml, hr, hown, hts, hlk, hfr, hlo, hw, hK, hC, hN⟩ := X
  intro H locs ls hP hS hls
  have hr := va_runS (locs := locs) (cells := 0) (slots := 0) (meth := meth) (e := e) (below := below) (As := as.map (tv w)) (rest := st.map (tv w)) (g := F0 m pc ls (stk.map (tv w))) ⟨hx, hb, hml, hown, hts⟩ (hc l w) ⟨cal_B hts hM hl hfr hlo hk, hts _ hi⟩
    ⟨WS_blind, fun U hU hW => ⟨rfl, WS_end hP hS hK hw hC hN hU hW⟩⟩ rfl (by rw [List.length_map]; exact hn) (hls.1.trans hml) (by subst hstk; rw [List.map_append, List.map_reverse]) (by rw [ctS_ok]; show 2 * 0 + ctS st ≤ 8; omega) hd ⟨Nat.zero_le _, Nat.zero_le _⟩
  exact J_run hr hS hls K
def ca : Nat → List cv → List (Nat × cv)
  | _, [] => []
  | i, v :: vs => (i, v) :: ca (if isL v = true then i + 2 else i + 1) vs
theorem tv_c2 (w : Wd) (v : cv) : (tv w v).category = 2 ↔ isL v = true := by
  rw [← tv_cat w v]
  exact beq_iff_eq.symm
theorem ca_map (w : Wd) : ∀ (as : List cv) (i : Nat), lv_args i (as.map (tv w)) = (ca i as).map (tl w)
  | [], _ => rfl
  | v :: vs, i => by
    show (i, tv w v) :: lv_args (if (tv w v).category = 2 then i + 2 else i + 1) (vs.map (tv w)) = (i, tv w v) :: (ca (if isL v = true then i + 2 else i + 1) vs).map (tl w)
    rw [ca_map w vs]
    by_cases hv : isL v = true
    · rw [if_pos hv, if_pos ((tv_c2 w v).mpr hv)]
    · rw [if_neg hv, if_neg (fun z => hv ((tv_c2 w v).mp z))]
theorem ca_len (w : Wd) : ∀ (as : List cv), (lg_sl (as.map (tv w))).length = ctS as
  | [] => rfl
  | v :: vs => by
    show ((if (tv w v).category = 2 then [Slot.val (tv w v), .second] else [.val (tv w v)]) ++ lg_sl (vs.map (tv w))).length = (if isL v then 2 else 1) + ctS vs
    rw [List.length_append, ca_len w vs]
    by_cases hv : isL v = true
    · rw [if_pos hv, if_pos ((tv_c2 w v).mpr hv)]; rfl
    · rw [if_neg hv, if_neg (fun z => hv ((tv_c2 w v).mp z))]; rfl
/-- a method's contract out of its body -/
theorem CT_of {y : MethodName} {cy : ByteArray} {ny : Nat} {ry : Option FieldType} {k : Nat} {as : List cv} {L0 : List (Nat × cv)} (hy : plainName y.cls = true) (hL : ca 0 as = L0) (hlen : ctS as ≤ ny) (body : ∀ κ : Kx, OK κ cy ny ry y.cls k → J κ 0 L0 [] h r) : ∀ l w, CT l w y cy ny ry k as h r := by
  intro l w
  refine Met.ofW (cc := cy) (maxL := ny) (ret := ry) (ws' := tbl) hy rfl ?_
  intro p e s m args below meth c s₁ B hml hv
  obtain ⟨rfl, hP, hK, hw, hC, hN⟩ := hv
  have hts := atoms_spec (ws := wsA y cy ny ry) B.pre
  have X : OK (p, l, e, (headSpec (wsA y cy ny ry) (rmk k)).room, s, m, (as.map (tv w)).toArray, below, meth, c, w) cy ny ry y.cls k := ⟨B.exec, B.bytes, hml, B.returns, findClass_of_methodNamed B.named, fun q hq => hts q (List.mem_cons_of_mem _ hq), B.notSynchronized, Nat.le_refl _, Nat.le_refl _, hw, hK, hC, hN⟩
  have hl := lv_entry (as.map (tv w)) (n := ny) (by rw [ca_len]; exact hlen)
  rw [lg_entry_eq]
  generalize (lg_sl (as.map (tv w)) ++ List.replicate (ny - (lg_sl (as.map (tv w))).length) Slot.unset).toArray = ls at hl ⊢
  rw [ca_map, hL, ← hml] at hl
  exact body _ X s.heap [] ls hP va_S.rf hl


end JJ
