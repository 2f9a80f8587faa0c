/-! A THROW of an exception whose constructor hands its text on by a link of its own (NoSuchElementException: 13). What the text-bearing constructors of the JDK do is the library's (ctorMessageOffV); here: the words that are wanted, what each gives, and the walk from the constructor's call to the end of the method that threw. -/
section XT
/-- Throwable's fields, as objects of the thrown class must have them -/
def xFields : List (String × String) := [("cause", "Ljava/lang/Throwable;"), ("stackTrace", Bundle.steD), ("suppressedExceptions", Bundle.listD), ("detailMessage", "Ljava/lang/String;"), ("backtrace", "Ljava/lang/Object;")]
def xStat : List (String × String) := [("UNASSIGNED_STACK", Bundle.steD), ("SUPPRESSED_SENTINEL", Bundle.listD)]
def xLink (own : String) (ic : Nat) (X : String) : List Cond := [.methodLink own ic (Bundle.initS X), .instantiable X 6, .fieldLink Bundle.tN 198 Bundle.tN "backtrace" "Ljava/lang/Object;", .lays Bundle.tN Bundle.tN "backtrace" "Ljava/lang/Object;"]
def xObj (X : String) : List Cond := xFields.map (fun f => Cond.lays X Bundle.tN f.1 f.2) ++ [Bundle.tFill0, Bundle.tFill].map (fun y => Cond.selects X y y) ++ xStat.map (fun f => Cond.isRef (.static Bundle.tN f.1 f.2))
def xAtoms (own : String) (ic : Nat) (X : String) (ix : Nat) (bx : ByteArray) (Y : String) (names : List String) : List Cond :=
  xLink own ic X ++ (xObj X ++ (Bundle.passSAtoms X Y ix bx ++ (Bundle.chainSAtoms Y names ++ (Bundle.throwableAtoms ++ Bundle.throwableSAtoms))))
/-- the same words, family by family -/
theorem xa_cut {own X Y : String} {ic ix : Nat} {bx : ByteArray} {names : List String} {P : Cond → Prop} (h : ∀ w ∈ xAtoms own ic X ix bx Y names, P w) :
    (∀ w ∈ xLink own ic X, P w) ∧ (∀ w ∈ xObj X, P w) ∧ (∀ w ∈ Bundle.passSAtoms X Y ix bx, P w) ∧ (∀ w ∈ Bundle.chainSAtoms Y names, P w) ∧ (∀ w ∈ Bundle.throwableAtoms, P w) ∧ ∀ w ∈ Bundle.throwableSAtoms, P w := by
  simp only [xAtoms, List.mem_append] at h
  exact ⟨fun w k => h w (.inl k), fun w k => h w (.inr (.inl k)), fun w k => h w (.inr (.inr (.inl k))), fun w k => h w (.inr (.inr (.inr (.inl k)))), fun w k => h w (.inr (.inr (.inr (.inr (.inl k))))), fun w k => h w (.inr (.inr (.inr (.inr (.inr k)))))⟩
variable {p : Program} {l : Launch} {e : Env} {R : Room} {s : State} {args : Array Value}
/-- a field of objects of class c (its table k): its place is of its type, and this name declares it -/
def xm_at (s : State) (c : ClassId) (k : Class) (f : Field) : Prop := k.instanceTypes[f.slot]? = some f.type ∧ ∃ d, Jmm.declares? s.vm f.slot (c + 1) c = some d ∧ d.2.name = f.name
theorem xm_apart {c : ClassId} {k : Class} {f g : Field} (hf : xm_at s c k f) (hg : xm_at s c k g) {a b : String} (ha : f.name = a) (hb : g.name = b) (hn : a ≠ b) : f.slot ≠ g.slot := by
  obtain ⟨-, df, f1, f2⟩ := hf
  obtain ⟨-, dg, g1, g2⟩ := hg
  subst ha; subst hb
  exact Cond.laysApart f1 g1 f2 g2 hn
/-- a method of Throwable that the thrown class doesn't replace -/
theorem xm_sel (had : l.admits e) {X : String} {c : ClassId} {y : MethodName} {m : MethodId} (hc : s.vm.findClass X = some c) (hm : s.methodNamed? y = some m) (hy : y.cls ≠ "java/lang/invoke/MethodHandle" ∧ y.cls ≠ "java/lang/invoke/VarHandle")
    (h : (Cond.selects X y y).before args s = true) : selectMethod e.platform s.vm c m = .method m := by
  obtain ⟨c', r, m', i1, i2, i3, i4, -⟩ := Cond.selects_spec (show (Cond.selects X y y).holds args s none s [] = true from h)
  rw [hc] at i1; rw [State.methodFound?_of_named hm hy] at i2; rw [hm] at i3
  cases i1; cases i2; cases i3
  rw [Launch.admits_selectMethod had]
  exact i4
/-- the cell of a class's statics, where no place of old cells was written -/
theorem xm_kept {t : State} {k n : Nat} (h : s.sameButNew t [] k n) {b : Addr} {o : Cell} (ho : s.heap[b]? = some o) (hst : o.vm.isStatics = true) :
    ∃ o', t.heap[b]? = some o' ∧ o'.vm ≠ .unknown ∧ ∀ i : Nat, o'.slots[i]? = o.slots[i]? := by
  obtain ⟨o', j1, j2, -, j4⟩ := h.2.2.2.2.2 b o ho
  have hv : o'.vm = o.vm := (congrArg Cell.vm j2 :)
  refine ⟨o', j1, fun hu => ?_, fun i => j4 i (List.not_mem_nil)⟩
  rw [← hv, hu] at hst
  exact Bool.noConfusion hst
/-- writes into new cells alone are no writes into old ones -/
theorem xm_drop {t : State} {locs : List Loc} {k n : Nat} (h : s.sameButNew t locs k n) (hl : ∀ x ∈ locs, s.heap.size ≤ x.base) : s.sameButNew t [] k n := by
  obtain ⟨j1, j2, j3, j4, j5, j6⟩ := h
  refine ⟨j1, j2, j3, j4, j5, fun a o ho => ?_⟩
  obtain ⟨o', r1, r2, r3, r4⟩ := j6 a o ho
  exact ⟨o', r1, r2, r3, fun i _ => r4 i fun hm => absurd (hl _ hm) (Nat.not_le.mpr (Array.getElem?_eq_some_iff.mp ho).1)⟩
/-- the constructors that pass the text on, from the thrown class's up to Throwable's -/
theorem xm_chain {pl : Platform} (hpl : pl.magicAccessors = ({} : Platform).magicAccessors) {top : MethodId} (htop : s.methodNamed? (Bundle.initS Bundle.tN) = some top) {X Y : String} {names : List String} {ix : Nat} {bx : ByteArray}
    (hb : decode bx 0 = .ok (.aload_n 0, 1) ∧ decode bx 1 = .ok (.aload_n 1, 1) ∧ decode bx 2 = .ok (.invokespecial ix, 3) ∧ decode bx 5 = .ok (.return_, 1)) (hf : Bundle.fit X = true ∧ Bundle.fit Y = true ∧ ∀ n ∈ names, Bundle.fit n = true)
    (h1 : ∀ w ∈ Bundle.passSAtoms X Y ix bx, w.before args s = true) (h2 : ∀ w ∈ Bundle.chainSAtoms Y names, w.before args s = true) :
    ∃ Ps : List PassC, Ps.length = names.length + 2 ∧ (∀ P ∈ Ps, P.LinksS pl s) ∧ PassesOn top (Ps.map (·.toPassT)) ∧ s.methodNamed? (Bundle.initS X) = some (firstOf top (Ps.map (·.toPassT))) := by
  obtain ⟨A, LA, nA, sA⟩ := PassC.ofS_atoms (pl := pl) hpl (Bundle.fit_spec hf.1).1 (Bundle.fit_spec hf.2.1).2 hb.1 hb.2.1 hb.2.2.1 hb.2.2.2 h1
  obtain ⟨B, Cs, len, LB, LC, nB, sB, on⟩ := Bundle.chainS (pl := pl) hpl htop names Y hf.2.1 hf.2.2 h2
  have hAB : A.sup = B.m := by rw [sA] at nB; exact Option.some.inj nB
  refine ⟨A :: B :: Cs, by simp only [List.length_cons, len], ?_, ⟨hAB, sB, on⟩, nA⟩
  intro P hP
  rw [List.mem_cons, List.mem_cons] at hP
  exact hP.elim (fun q => q ▸ LA) (fun q => q.elim (fun q => q ▸ LB) (LC P))
/-- the road past the trace: the object's backtrace is null still -/
theorem xm_skip {T : ThrowableC} {pl : Platform} {B : BackC} (hB : B.Links T pl s) {c : ClassId} {k : Class} (hat : xm_at s c k B.fBack) (hty : B.fBack.type = .object "java/lang/Object")
    (n1 : B.fBack.slot ≠ T.fCause.slot) (n2 : B.fBack.slot ≠ T.fStack.slot) (n3 : B.fBack.slot ≠ T.fSupp.slot) (u0 sen : RefV) (o : Addr) (t : ThreadId) :
    SkipFacts T pl s (fun u => u) u0 ((preparedCellV T.toThrowableT (freshCell c k) o u0 sen).withEntry t) := by
  have hd : (freshCell c k).slots[B.fBack.slot]? = some .null := by rw [fresh_default hat.1, hty]; rfl
  refine ⟨B, hB, ?_, fun _ _ => rfl⟩
  simp only [preparedCellV, Cell.setSlot, Cell.withEntry, Array.getElem?_setIfInBounds]
  rw [if_neg n3.symm, if_neg n2.symm, if_neg n1.symm]
  exact hd
end XT
