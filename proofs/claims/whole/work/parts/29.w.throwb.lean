section XT1
variable {p : Program} {l : Launch} {e : Env} {R : Room} {s : State} {m : MethodId} {args : Array Value} {below : List Frame} {meth : Method} {c : Code} {V : State} {cells slots : Nat}
/-- from the constructor's call, over a new object o and its text, to the end of the method that threw it -/
theorem xt_ctor (X : Stand p l e R s m args below meth c V [] cells slots) (hexec : p.tables.exec = Jvm.exec) (htr : e.platform.stackTraces = false) {own E Y : String} {names : List String} {ic ix : Nat} {bx : ByteArray}
    (hb : decode bx 0 = .ok (.aload_n 0, 1) ∧ decode bx 1 = .ok (.aload_n 1, 1) ∧ decode bx 2 = .ok (.invokespecial ix, 3) ∧ decode bx 5 = .ok (.return_, 1)) (hf : Bundle.fit E = true ∧ Bundle.fit Y = true ∧ ∀ n ∈ names, Bundle.fit n = true)
    (hown : s.vm.findClass own = some m.cls) (hw : ∀ w ∈ xAtoms own ic E ix bx Y names, w.before args s = true)
    {o txt : Addr} {ce : ClassId} {ke : Class} (hE : s.vm.findClass E = some ce) (hke : s.vm.classes[ce]? = some ke) (ho : V.heap[o]? = some (freshCell ce ke)) (hnew : s.heap.size ≤ o)
    {pc : Nat} {ls : Array Slot} {rest : List Value} (hls : ls.size = c.maxLocals) (d1 : decode c.code pc = .ok (.invokespecial ic, 3)) (d2 : decode c.code (pc + 3) = .ok (.athrow, 1)) (hout : ∀ x ∈ c.exceptionTable.toList, covers x (pc + 3) = false)
    (hfr : names.length + 4 < R.frames) (hlo : (rest.map fun v => v.category).sum + (13 * (names.length + 2) + 43) ≤ R.locals) (hlk : meth.locks = false) :
    ∃ U : State, Steps p.tables e below (V.setTop (F0 m pc ls (.ref txt :: .ref o :: .ref o :: rest))) U ∧ U.status = .running ∧ Ended U below (.threw o) ∧ s.WarmedH U.vm ∧ s.sameButNew ({ U with vm := s.vm } : State) [] cells slots ∧
      ∃ z, U.heap[o]? = some z ∧ z.vm = .none ∧ z.cls = ce := by
  obtain ⟨wL, wO, wP, wC, wT, wS⟩ := xa_cut hw
  have pM : e.platform.magicAccessors = ({} : Platform).magicAccessors := by rw [X.admits.platform]
  obtain ⟨T, Z0, LT, -, tie⟩ := ThrowableC.of_atoms (pl := e.platform) (by rw [X.admits.platform]) (by rw [X.admits.platform]) pM wT
  obtain ⟨Z, M, LZ, LM, nZ⟩ := Init0T.ofS_atoms pM LT tie wS
  obtain ⟨Ps, hlen, LPs, hon, hfirst⟩ := xm_chain (pl := e.platform) pM nZ hb hf wP wC
  -- the object's fields
  obtain ⟨iM, tieM⟩ := tie.msg
  have aC : xm_at s ce ke T.fCause := Cond.laysAt hE hke tie.cause (wO (.lays E Bundle.tN "cause" "Ljava/lang/Throwable;") (by simp [xObj, xFields]))
  have aS : xm_at s ce ke T.fStack := Cond.laysAt hE hke tie.stack (wO (.lays E Bundle.tN "stackTrace" Bundle.steD) (by simp [xObj, xFields]))
  have aP : xm_at s ce ke T.fSupp := Cond.laysAt hE hke tie.supp (wO (.lays E Bundle.tN "suppressedExceptions" Bundle.listD) (by simp [xObj, xFields]))
  have aM : xm_at s ce ke T.fMsg := Cond.laysAt hE hke tieM (wO (.lays E Bundle.tN "detailMessage" "Ljava/lang/String;") (by simp [xObj, xFields]))
  obtain ⟨ci, i, fb, b1, b2, b3, b4, -, bn, bt, bf⟩ := Cond.ownField (t := .object "java/lang/Object") tie.found LT.cls (by decide +kernel) (wL (.fieldLink Bundle.tN 198 Bundle.tN "backtrace" "Ljava/lang/Object;") (by simp [xLink])) (wL (.lays Bundle.tN Bundle.tN "backtrace" "Ljava/lang/Object;") (by simp [xLink])) e.platform pM
  have aB : xm_at s ce ke fb := Cond.laysAt hE hke bf (wO (.lays E Bundle.tN "backtrace" "Ljava/lang/Object;") (by simp [xObj, xFields]))
  have hord : ke.kind = .ordinary := by
    obtain ⟨c1, k1, y1, y2, y3, -⟩ := Cond.instantiable_spec (wL (.instantiable E 6) (by simp [xLink]))
    rw [hE] at y1; cases y1
    rw [hke] at y2; cases y2
    exact y3
  -- Throwable's statics
  obtain ⟨cs, hcs, hst⟩ := tie.statics
  obtain ⟨cs', kS, kU, kV⟩ := xm_kept X.same hcs hst
  obtain ⟨u0, hu0⟩ := Cond.staticRefV tie.unassigned LT.unassignedStatic LT.statics hcs hst (wO (.isRef (.static Bundle.tN "UNASSIGNED_STACK" Bundle.steD)) (by simp [xObj, xStat]))
  obtain ⟨sn, hsn⟩ := Cond.staticRefV tie.sentinel LT.sentinelStatic LT.statics hcs hst (wO (.isRef (.static Bundle.tN "SUPPRESSED_SENTINEL" Bundle.listD)) (by simp [xObj, xStat]))
  have hapart : T.aS ≠ o := fun q => absurd (Array.getElem?_eq_some_iff.mp hcs).1 (by rw [q]; exact Nat.not_lt.mpr hnew)
  have hskip := xm_skip (T := T) (pl := e.platform) (B := ⟨ci, i, fb⟩) ⟨b1, b2, b3, b4⟩ aB bt (xm_apart aB aC bn tie.causeName (by decide)) (xm_apart aB aS bn tie.stackName (by decide)) (xm_apart aB aP bn tie.suppName (by decide)) u0 sn o
  -- into the constructor, through it, and out by the throw
  obtain ⟨tm, -, -, -, v1, hn1, -, -, -, -, -, -, -, hW1, enter⟩ := Steps.initColdS (tb := p.tables) (e := e) (below := below) X.here hexec X.warmed pM hown (t := Bundle.initS E) rfl rfl (Bundle.fit_spec hf.1).2
    (wL (.methodLink own ic (Bundle.initS E)) (by simp [xLink])) (wP (.instanceMethod (Bundle.initS E)) (by simp [Bundle.passSAtoms])) (bytes := bx) (maxL := 2) (wP (.code (Bundle.initS E) bx 2 none) (by simp [Bundle.passSAtoms]))
    (f := F0 m pc ls (.ref txt :: .ref o :: .ref o :: rest)) rfl rfl d1
  rw [hfirst] at hn1
  cases hn1
  obtain ⟨v2, X2, through⟩ := (X.noted hW1).ctorMessageOffV hexec (g := F0 m pc ls (.ref o :: rest)) rfl hls T LT Z LZ M LM Ps LPs hon (u0 := u0) (sen := sn) (self := o) (msg := .ref txt) rfl (cell := freshCell ce ke) (cellS := cs')
    ho (fun _ q => nomatch q) (fun q => nomatch q) rfl rfl
    (xm_sel X.admits hE tie.fill0 (by decide) (wO (.selects E Bundle.tFill0 Bundle.tFill0) (by simp [xObj]))) (xm_sel X.admits hE tie.fill (by decide) (wO (.selects E Bundle.tFill Bundle.tFill) (by simp [xObj])))
    kS hapart kU ((kV _).trans hu0) ((kV _).trans hsn)
    (Takes.of_laid hke hord aC.1 (by rw [tie.causeType]; rfl)) (Takes.of_laid hke hord aS.1 (by rw [tie.stackType]; exact fits_refV_array _ u0)) (Takes.of_laid hke hord aP.1 (by rw [tie.suppType]; exact fits_refV_object _ sn)) (Takes.of_laid hke hord aM.1 (by rw [tie.msgType]; rfl))
    tie.objLocals (hskip _) htr [] d1 (by rw [hlen]; exact hfr) (by
      have h1 : (2 * (F0 m pc ls (.ref o :: rest)).monitorRoom + ((F0 m pc ls (.ref o :: rest)).stack.map fun v => v.category).sum) = 1 + (rest.map fun v => v.category).sum := by
        show 2 * 0 + ((Value.ref o :: rest).map fun v => v.category).sum = _
        rw [List.map_cons, List.sum_cons]
        show 2 * 0 + (1 + _) = _
        omega
      rw [h1, hlen]; omega)
  obtain ⟨away, hrun, hend, hwarm, hsame⟩ := X2.athrowLeaves hexec (g := F0 m (pc + 3) ls (.ref o :: rest)) rfl rfl rfl hout (rest := rest) rfl d2 hlk
  refine ⟨_, enter _ (fun acts => ?_), hrun, hend, hwarm, xm_drop hsame ?_, plainBareV T.toThrowableT (freshCell ce ke) o u0 sn (.ref txt), ?_, rfl, rfl⟩
  · rw [doInvoke_state]
    exact through _ away
  · intro x hx
    have hx : x.base = o := by
      rw [List.nil_append] at hx
      simp only [List.mem_cons, List.not_mem_nil, or_false] at hx
      rcases hx with q | q | q | q | q <;> rw [q]
    rw [hx]; exact hnew
  · exact heapAt_setCell_self (s := (V.setVm v1).setVm v2) _ (Array.getElem?_eq_some_iff.mp ho).1
end XT1
