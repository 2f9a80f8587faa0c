/-! A throw that comes to a method whose table's FIRST row takes it, where the row's class may not have been looked up yet: the machine's one step notes the link and goes on at the handler. -/
section XC
/-- the frame on top once more, over other tables of the machine -/
theorem xc_top {T : State} {g g' : JFrame} {q : Addr} {v : Vm} (h : T.topJava?.isSome) :
    (((T.setTop g).pushFrame (.throwing q)).setVm v).setFrames (.java g' :: T.frames.tail) = (T.setVm v).setTop g' := by
  obtain ⟨f, hf⟩ := Option.isSome_iff_exists.mp h
  obtain ⟨r, hr⟩ := State.topJava?_eq_some.mp hf
  have hv : (T.setVm v).frames = .java f :: r := hr
  rw [State.setTop_of_frames g' hv, State.setTop_of_frames g hr, hr]
  show (((T.setFrames (.java g :: r)).setFrames _).setFrames (.java g' :: r)).setVm v = (T.setFrames (.java g' :: r)).setVm v
  rw [State.setFrames_setFrames, State.setFrames_setFrames]
/-- the search itself: what stands in the state u, in one bundle -/
def xc_fits (e : Env) (u : State) (f : JFrame) (q : Addr) (x : ExceptionTableEntry) (k : ClassId) : Prop :=
  (∃ mt cd more, u.vm.method? f.method = some mt ∧ mt.code = some cd ∧ cd.exceptionTable.toList = x :: more) ∧ covers x f.pc = true ∧ x.catchType ≠ 0 ∧ u.vm.ClassLinks e.platform f.method.cls x.catchType k ∧
  ∃ o z1 z2, u.heap[q]? = some o ∧ o.vm = .none ∧ u.vm.classes[o.cls]? = some z1 ∧ u.vm.classes[k]? = some z2 ∧ u.vm.assignable o.cls k = true
theorem xc_step {e : Env} {u : State} {f : JFrame} {r : List Frame} {q : Addr} {x : ExceptionTableEntry} {k : ClassId} (h : xc_fits e u f q x k) :
    (stepThrowing e u q (.java f :: r)).1 = (u.setVm (u.vm.noted f.method.cls x.catchType (.cls k))).setFrames (.java { f with pc := x.handlerPc, stack := [.ref q] } :: r) := by
  obtain ⟨⟨mt, cd, more, e1, e2, e3⟩, hin, hty, hlk, o, z1, z2, ho, hv, hz1, hz2, has⟩ := h
  have hop := (resolveClass_links e.toSetting hlk).op (op := VmOp.resolveClass f.method.cls x.catchType) rfl
  have hA := (Vm.Alike.refl u.vm).noted f.method.cls x.catchType (.cls k)
  have hN : ∀ N : Vm, N = u.vm.noted f.method.cls x.catchType (.cls k) → u.vm.Alike N → (∃ z, N.classes[o.cls]? = some z) ∧ (∃ z, N.classes[k]? = some z) ∧ N.assignable o.cls k = true := by
    intro N _ hN
    obtain ⟨y1, g1, -⟩ := hN.2.2 _ _ hz1
    obtain ⟨y2, g2, -⟩ := hN.2.2 _ _ hz2
    exact ⟨⟨y1, g1⟩, ⟨y2, g2⟩, by rw [hN.assignable]; exact has⟩
  obtain ⟨⟨y1, g1⟩, ⟨y2, g2⟩, g3⟩ := hN _ rfl hA
  have hwp : ∀ (K : Handler → Pre) (E : CtlPost) (d : Bool) (as : List Action), K (.found x.handlerPc) d as (u.setVm (u.vm.noted f.method.cls x.catchType (.cls k))) → wp (findHandler f q) K E e d as u := by
    intro K E d as hK
    have hin' : (decide (x.startPc ≤ f.pc) && decide (f.pc < x.endPc)) = true := hin
    refine (W.findHandler_eq e1 e2).mpr ?_
    rw [e3]
    simpa [findHandler.go, hin', hty, hop.1, hop.2, ho, hv, g1, g2, g3, VmOp.dirties, VmOp.acts] using hK
  unfold stepThrowing searchFrame vmDo
  dsimp only
  generalize hres : Sem.go _ e false [] u = res
  obtain ⟨as, rfl, -⟩ := Sem.eq_ok_of hres (a := Handler.found x.handlerPc) (s' := u.setVm (u.vm.noted f.method.cls x.catchType (.cls k))) (acts' := []) (by
    rw [wp_bind']
    exact hwp _ _ _ _ (by simp))
  rfl
variable {p : Program} {l : Launch} {e : Env} {R : Room} {s : State} {m : MethodId} {args : Array Value} {below : List Frame} {meth : Method} {c : Code} {H : Heap} {locs : List Loc} {cells slots : Nat} {Q : State → Prop} {pc : Nat} {ls : Array Slot} {rest : List Value}
/-- caught by the first row of this method's table -/
theorem vx_catch0 {own name E : String} {ce : Cell} {q : Addr} (hown : s.vm.findClass own = some m.cls) (x : ExceptionTableEntry) (suf : List ExceptionTableEntry) (hsplit : c.exceptionTable.toList = x :: suf) (hx : covers x pc = true) (h0 : x.catchType ≠ 0)
    (hlink : (Cond.classLink own x.catchType name).before args s = true) (hcast : (Cond.castable E name).before args s = true) (hcell : H[q]? = some ce) (hv : ce.vm = .none) (hcl : s.vm.findClass E = some ce.cls)
    (kk : W p l e R s m args below meth c H locs cells slots Q (F0 m x.handlerPc ls [.ref q])) : vx_W p l e R s m args below meth c H locs cells slots Q (F0 m pc ls rest) q := by
  intro T hT X
  have hmg : e.platform.magicAccessors = ({} : Platform).magicAccessors := by rw [X.admits.platform]
  obtain ⟨k, hk, hL⟩ := Cond.classLink_spec hown hlink e.platform hmg
  have hfit : s.vm.assignable ce.cls k = true := by
    obtain ⟨i, j, hi, hj, hij⟩ := Cond.castable_spec hcast
    rw [hcl] at hi; rw [hk] at hj
    cases hi; cases hj
    exact hij
  have hal := X.warmed.alike
  obtain ⟨z1, hz1, -⟩ := Vm.findClass_spec hcl
  obtain ⟨z2, hz2, -⟩ := Vm.findClass_spec hk
  obtain ⟨y1, hy1, -⟩ := hal.2.2 _ _ hz1
  obtain ⟨y2, hy2, -⟩ := hal.2.2 _ _ hz2
  have hF : xc_fits e ((T.setTop (F0 m pc ls rest)).pushFrame (.throwing q)) (F0 m pc ls rest) q x k :=
    ⟨⟨meth, c, suf, X.method', X.code, hsplit⟩, hx, h0, X.warmed.classLinks hL, ce, y1, y2, by show T.heap[q]? = some ce; rw [hT]; exact hcell, hv, hy1, hy2, by show T.vm.assignable _ _ = true; rw [hal.assignable]; exact hfit⟩
  have hwarm : s.WarmedH (T.vm.noted m.cls x.catchType (.cls k)) := by
    obtain ⟨dk, _, _, _, hd, _, _, _, _, _, _, hres⟩ := hL.here
    exact X.warmed.noted hd hres (State.rightAt_cls hL)
  obtain ⟨t, st, hQ⟩ := kk (T.setVm (T.vm.noted m.cls x.catchType (.cls k))) hT (X.noted hwarm)
  refine ⟨t, ?_, hQ⟩
  have hgo := X.here.throwing (g := F0 m pc ls rest) q
  refine Steps.head hgo.1 hgo.2 ?_
  rw [stepThread_throwing (frames_entered X.here.top _), xc_step hF, xc_top X.here.top]
  exact st
end XC
