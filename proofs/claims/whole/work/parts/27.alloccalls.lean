/-! ===== calls while cells are made ===== -/
def callOk (g : Ga) (mc ms MC MS : Nat) : Bool := (decide (1 ≤ g.1) && decide (g.2.1 ≤ g.1)) && (decide (g.1 - g.2.1 + mc ≤ MC) && decide (g.2.2.1 + ms ≤ MS))
def bna {β : Type} (f : Ga → Option Ga) (g : Ga) (mc ms MC MS : Nat) (k : Ga → Option β) : Option β :=
  if callOk g mc ms MC MS = true then match f (g.1, g.1, 0, g.2.2.2) with
    | some q => if decide (q.1 = g.1 + mc) = true then k (q.1, g.2.1, g.2.2.1 + ms, q.2.2.2) else none
    | none => none
  else none
theorem bna_e {β : Type} {f : Ga → Option Ga} {g : Ga} {mc ms MC MS : Nat} {k : Ga → Option β} {q : β} (hq : bna f g mc ms MC MS k = some q) : callOk g mc ms MC MS = true ∧ ∃ g2, f (g.1, g.1, 0, g.2.2.2) = some g2 ∧ g2.1 = g.1 + mc ∧ k (g2.1, g.2.1, g.2.2.1 + ms, g2.2.2.2) = some q := by
  unfold bna at hq
  obtain ⟨h1, hq⟩ := gd hq
  split at hq
  · rename_i g2 e
    obtain ⟨h2, hq⟩ := gd hq
    exact ⟨h1, g2, e, of_decide_eq_true h2, hq⟩
  · cases hq
section A2
variable {κ : Kx} {cc : ByteArray} {nL : Nat} {own nm : String} {lv mc ms pc : Nat} {L L' : List (Nat × cv)} {st : List cv} {h : Ga} {r : Nat × Hp}
theorem A_ltH {β : Type} {e : Ga} {f : Ga → Option β} {q : β} (hq : lt e f = some q) (K : ∀ x, f x = some q → JA κ pc L st x r) : JA κ pc L st e r := K e hq
theorem A_ltI {β : Type} {e : Int32} {f : Int32 → Option β} {q : β} (hq : lt e f = some q) (K : ∀ x, f x = some q → JA κ pc L (.inl x :: st) h r) : JA κ pc L (.inl e :: st) h r := K e hq
theorem A_ltR {β : Type} {e : Nat} {f : Nat → Option β} {q : β} (hq : lt e f = some q) (K : ∀ x, f x = some q → JA κ pc L (.inr (.inr x) :: st) h r) : JA κ pc L (.inr (.inr e) :: st) h r := K e hq
theorem good_tbl {y : MethodName} {cy : ByteArray} {ny : Nat} {ry : Option FieldType} (h1 : Cond.code y cy ny ry ∈ tbl) : GoodIn tbl (wsA y cy ny ry) := by
  intro w hw
  have hm : w ∈ tbl := by
    rcases List.mem_cons.mp hw with h | h
    · rw [h]; exact h1
    · exact h
  exact ⟨hm, good_of_word (List.all_eq_true.mp tbl_good w hm)⟩
theorem cal_BA {s : State} {R : Room} {args : Array Value} {y : MethodName} {cy : ByteArray} {ny n ky idx c1 s1 : Nat} (hts : ∀ q ∈ tbl, q.before args s = true) (hM : Cal y cy ny none n) (hl : Cond.methodLink own idx y ∈ tbl) (hfr : lv ≤ R.frames) (hlo : 64 * lv ≤ R.locals) (hk : ky + 1 ≤ lv) : CallB R s args own idx y cy ny none (wsA y cy ny none) (rmA ky c1 s1) c1 s1 n := by
  obtain ⟨h1, h2, h3, h4⟩ := hM
  refine callB_of (ws' := tbl) n hts (good_tbl h1) rfl rfl rfl (hts _ h2) (hts _ hl) h3 ⟨?_, ?_⟩
  · show ky + 1 ≤ R.frames
    omega
  · show 8 + (ny + 11) + 64 * ky ≤ R.locals
    omega
theorem WSA_blind {w : Wd} {n : Nat} {h : Hp} {av : List Value} : FrameBlind (va_Pc av (fun U => WSA w n h U)) := by
  intro a U g mk q
  obtain ⟨q0, qP, qz, qK, qW, qN⟩ := q
  exact ⟨q0, qP, qz, va_K.moved (u := U) (U := U.calling g mk a) (Vm.Alike.refl U.vm) qK, qW, NwA.same (u := U) (U := U.calling g mk a) rfl qN⟩
theorem A_run {p : Program} {l : Launch} {e : Env} {R : Room} {s : State} {m : MethodId} {args : Array Value} {below : List Frame} {meth : Method} {c : Code} {w : Wd} {H : Heap} {locs : List Loc} {ls : Array Slot} {stk st : List cv} {n1 c1 s1 : Nat} {h1 : Hp} {a : Array Value}
    (hr : va_Run p l e R s m args below meth c H locs (h.1 - h.2.1) h.2.2.1 c1 s1 (F0 m pc ls (stk.map (tv w))) (st.map (tv w)) (QA w (n1, h1) a) (Ab w)) (hS : va_S (Ab w) s.heap H locs) (hs0 : s.heap.size = w.2.2 (h.2.1 + 1)) (hl : lv_has ls c.maxLocals (L.map (tl w))) (hn : n1 - h.2.1 = h.1 - h.2.1 + c1)
    (K : JA (p, l, e, R, s, m, args, below, meth, c, w) (pc + 3) L st (n1, h.2.1, h.2.2.1 + s1, h1) r) : W p l e R s m args below meth c H locs (h.1 - h.2.1) h.2.2.1 (MQ below (QA w r) args s R.cells R.slots (Ab w)) (F0 m pc ls (stk.map (tv w))) := by
  intro T hT X
  obtain ⟨v, st₀, t, T', L2, h0, X', hL, e1, e2, ⟨hv, hWS, hz, hk⟩, stp⟩ := hr T hT X
  cases hv
  rw [h0] at hz hk
  have hP1 : va_P w.1 vwCl (wdA w n1 h1) T'.heap := by rw [e1]; exact hWS.1
  have K := K T'.heap (locs ++ L2) ls ⟨hP1, hs0⟩ ⟨Nat.le_trans hS.1 (by rw [e1]; exact hz), fun q h1 h2 => by rw [e1, hk q (Nat.lt_of_lt_of_le h1 hS.1) h2]; exact hS.2.1 q h1 h2, fun q hq => by
      rcases List.mem_append.mp hq with h | h
      · exact hS.2.2 q h
      · exact hL q h⟩ hl
  dsimp only at K
  rw [hn] at K
  obtain ⟨t2, a1, b1⟩ := K T' rfl X'
  exact ⟨t2, stp t2 a1, b1⟩
theorem A_callI (X : OKA κ cc nL own nm lv mc ms) {y : MethodName} {cy : ByteArray} {ny n ky idx a n1 c1 s1 : Nat} {as stk : List cv} {h1 : Hp} (hd : decode cc pc = .ok (.invokespecial idx, 3)) (hM : Cal y cy ny none n) (hi : Cond.instanceMethod y ∈ tbl) (hy : y.name = "<init>") (hl : Cond.methodLink own idx y ∈ tbl) (hk : ky + 1 ≤ lv) (hc : ∀ l w, CTA l w y cy ny ky c1 s1 (.inr (.inr a) :: as) h.1 h.2.2.2 (n1, h1)) (ha : ¬ a = 0) (hn : as.length = n) (hstk : stk = as.reverse ++ .inr (.inr a) :: st) (hct : ctS st ≤ 8) (hok : callOk h c1 s1 mc ms = true) (hn1 : n1 = h.1 + c1) (K : JA κ (pc + 3) L st (n1, h.2.1, h.2.2.1 + s1, h1) r) : JA κ pc L stk h r := by
  obtain ⟨p, l, e, R, s, m, args, below, meth, c, w⟩ := κ
  obtain ⟨hx, hb, hml, hr, hown, hts, hlk, hfr, hlo, hmc, hms, hnm, hba, hw, hK, hN⟩ := X
  intro H locs ls ⟨hP, hz⟩ hS hls
  simp only [callOk, Bool.and_eq_true, decide_eq_true_eq] at hok
  refine W_sz (fun hu => ?_)
  have hz2 := sz_of hw hP hok.1.1 hok.1.2 hz hu
  have e0 : tv w (.inr (.inr a)) = .ref (w.2.2 a) := tv_ref ha
  have hr := va_runI (locs := locs) (cells := h.1 - h.2.1) (slots := h.2.2.1) (meth := meth) (e := e) (below := below) (b := w.2.2 a) (As := as.map (tv w)) (rest := st.map (tv w)) (g := F0 m pc ls (stk.map (tv w))) ⟨hx, hb, hml, hown, hts⟩ (hc l w) ⟨cal_BA hts hM hl hfr hlo hk, hy, hts _ hi⟩
    ⟨WSA_blind, fun U hU hW => ⟨by rw [List.map_cons, e0], by rw [hU]; exact hP, by rw [hU]; exact hz2, va_K.moved hW.alike hK, hw, hN.warm hW⟩⟩ rfl (by rw [List.length_map]; exact hn) (hls.1.trans hml) (by subst hstk; rw [rev_map, e0]) (by rw [ctS_ok]; show 2 * 0 + ctS st ≤ 8; omega) hd ⟨by omega, by omega⟩
  exact A_run hr hS hz hls (by omega) K
theorem A_callIN (X : OKA κ cc nL own nm lv mc ms) {y : MethodName} {cy : ByteArray} {ny n ky idx a n1 c1 s1 : Nat} {as stk : List cv} {h1 : Hp} (hd : decode cc pc = .ok (.invokespecial idx, 3)) (hM : Cal y cy ny none n) (hi : Cond.instanceMethod y ∈ tbl) (hy : y.name = "<init>") (hl : ∃ q ∈ nestI, q.1 = own ∧ q.2.1 = idx ∧ (⟨q.2.2, "<init>", "()V"⟩ : MethodName) = y) (hk : ky + 1 ≤ lv) (hc : ∀ l w, CTA l w y cy ny ky c1 s1 (.inr (.inr a) :: as) h.1 h.2.2.2 (n1, h1)) (ha : ¬ a = 0) (hn : as.length = n) (hstk : stk = as.reverse ++ .inr (.inr a) :: st) (hct : ctS st ≤ 8) (hok : callOk h c1 s1 mc ms = true) (hn1 : n1 = h.1 + c1) (K : JA κ (pc + 3) L st (n1, h.2.1, h.2.2.1 + s1, h1) r) : JA κ pc L stk h r := by
  obtain ⟨p, l, e, R, s, m, args, below, meth, c, w⟩ := κ
  obtain ⟨hx, hb, hml, hr, hown, hts, hlk, hfr, hlo, hmc, hms, hnm, hba, hw, hK, hN⟩ := X
  intro H locs ls ⟨hP, hz⟩ hS hls
  simp only [callOk, Bool.and_eq_true, decide_eq_true_eq] at hok
  refine W_sz (fun hu => ?_)
  have hz2 := sz_of hw hP hok.1.1 hok.1.2 hz hu
  have e0 : tv w (.inr (.inr a)) = .ref (w.2.2 a) := tv_ref ha
  have hw1 : va_Nw (.methodLinkNest own idx y "StruckWords") s := by
    obtain ⟨q, z0, z1, z2, z3⟩ := hl
    rw [← z1, ← z2, ← z3]
    exact hN.1 q z0
  obtain ⟨k1, k2, k3, k4⟩ := hM
  have cn : va_CN R s args own idx y "StruckWords" cy ny none (wsA y cy ny none) (rmA ky c1 s1) c1 s1 n := va_cnB (ws' := tbl) n hts (good_tbl k1) rfl rfl rfl hw1 (hts _ k2) k3 ⟨by show ky + 1 ≤ R.frames; omega, by show 8 + (ny + 11) + 64 * ky ≤ R.locals; omega⟩
  have hr := va_runIN (locs := locs) (cells := h.1 - h.2.1) (slots := h.2.2.1) (meth := meth) (e := e) (below := below) (b := w.2.2 a) (As := as.map (tv w)) (rest := st.map (tv w)) (g := F0 m pc ls (stk.map (tv w))) ⟨hx, hb, hml, hown, hts⟩ (hc l w) ⟨cn, hy, hts _ hi⟩
    ⟨WSA_blind, fun U hU hW => ⟨by rw [List.map_cons, e0], by rw [hU]; exact hP, by rw [hU]; exact hz2, va_K.moved hW.alike hK, hw, hN.warm hW⟩⟩ rfl (by rw [List.length_map]; exact hn) (hls.1.trans hml) (by subst hstk; rw [rev_map, e0]) (by rw [ctS_ok]; show 2 * 0 + ctS st ≤ 8; omega) hd ⟨by omega, by omega⟩
  exact A_run hr hS hz hls (by omega) K
theorem A_callV (X : OKA κ cc nL own nm lv mc ms) {y : MethodName} {cy : ByteArray} {ny n ky idx a ci n1 c1 s1 : Nat} {q : vw_C} {as stk : List cv} {h1 : Hp} (hd : decode cc pc = .ok (.invokevirtual idx, 3)) (hM : Cal y cy ny none n) (hi : Cond.instanceMethod y ∈ tbl) (hs : Cond.selects y.cls y y ∈ tbl) (hl : Cond.methodLink own idx y ∈ tbl) (hk : ky + 1 ≤ lv) (ha : oA h ci a = true) (hq : vwCl[ci]? = some q) (hqc : q.1 = y.cls) (hc : ∀ l w, CTA l w y cy ny ky c1 s1 (.inr (.inr a) :: as) h.1 h.2.2.2 (n1, h1)) (hn : as.length = n) (hstk : stk = as.reverse ++ .inr (.inr a) :: st) (hct : ctS st ≤ 8) (hok : callOk h c1 s1 mc ms = true) (hn1 : n1 = h.1 + c1) (K : JA κ (pc + 3) L st (n1, h.2.1, h.2.2.1 + s1, h1) r) : JA κ pc L stk h r := by
  obtain ⟨p, l, e, R, s, m, args, below, meth, c, w⟩ := κ
  obtain ⟨hx, hb, hml, hr, hown, hts, hlk, hfr, hlo, hmc, hms, hnm, hba, hw, hK, hN⟩ := X
  intro H locs ls ⟨hP, hz⟩ hS hls
  simp only [callOk, Bool.and_eq_true, decide_eq_true_eq] at hok
  refine W_sz (fun hu => ?_)
  have hz2 := sz_of hw hP hok.1.1 hok.1.2 hz hu
  have la := oA_s ha
  have e0 : tv w (.inr (.inr a)) = .ref (w.2.2 a) := tv_ref (by have := (lz_s la).2.1; omega)
  have hrc := va_recv hK hP hq ((wdA_at la).trans (by rw [celA_o (lz_s la).1]))
  rw [hqc] at hrc
  have hr := va_runV (locs := locs) (cells := h.1 - h.2.1) (slots := h.2.2.1) (meth := meth) (e := e) (below := below) (b := w.2.2 a) (As := as.map (tv w)) (rest := st.map (tv w)) (g := F0 m pc ls (stk.map (tv w))) ⟨hx, hb, hml, hown, hts⟩ (hc l w) ⟨cal_BA hts hM hl hfr hlo hk, hts _ hi, hts _ hs⟩
    ⟨WSA_blind, hrc, fun U hU hW => ⟨by rw [List.map_cons, e0], by rw [hU]; exact hP, by rw [hU]; exact hz2, va_K.moved hW.alike hK, hw, hN.warm hW⟩⟩ rfl (by rw [List.length_map]; exact hn) (hls.1.trans hml) (by subst hstk; rw [rev_map, e0]) (by rw [ctS_ok]; show 2 * 0 + ctS st ≤ 8; omega) hd ⟨by omega, by omega⟩
  exact A_run hr hS hz hls (by omega) K
theorem A_callS (X : OKA κ cc nL own nm lv mc ms) {y : MethodName} {cy : ByteArray} {ny n ky idx n1 c1 s1 : Nat} {as stk : List cv} {h1 : Hp} (hd : decode cc pc = .ok (.invokestatic idx, 3)) (hM : Cal y cy ny none n) (hi : Cond.static y ∈ tbl) (hl : Cond.methodLink own idx y ∈ tbl) (hk : ky + 1 ≤ lv) (hc : ∀ l w, CTA l w y cy ny ky c1 s1 as h.1 h.2.2.2 (n1, h1)) (hn : as.length = n) (hstk : stk = as.reverse ++ st) (hct : ctS st ≤ 8) (hok : callOk h c1 s1 mc ms = true) (hn1 : n1 = h.1 + c1) (K : JA κ (pc + 3) L st (n1, h.2.1, h.2.2.1 + s1, h1) r) : JA κ pc L stk h r := by
  obtain ⟨p, l, e, R, s, m, args, below, meth, c, w⟩ := κ
  obtain ⟨hx, hb, hml, hr, hown, hts, hlk, hfr, hlo, hmc, hms, hnm, hba, hw, hK, hN⟩ := X
  intro H locs ls ⟨hP, hz⟩ hS hls
  simp only [callOk, Bool.and_eq_true, decide_eq_true_eq] at hok
  refine W_sz (fun hu => ?_)
  have hz2 := sz_of hw hP hok.1.1 hok.1.2 hz hu
  have hr := va_runS (locs := locs) (cells := h.1 - h.2.1) (slots := h.2.2.1) (meth := meth) (e := e) (below := below) (As := as.map (tv w)) (rest := st.map (tv w)) (g := F0 m pc ls (stk.map (tv w))) ⟨hx, hb, hml, hown, hts⟩ (hc l w) ⟨cal_BA hts hM hl hfr hlo hk, hts _ hi⟩
    ⟨WSA_blind, fun U hU hW => ⟨rfl, by rw [hU]; exact hP, by rw [hU]; exact hz2, va_K.moved hW.alike hK, hw, hN.warm hW⟩⟩ rfl (by rw [List.length_map]; exact hn) (hls.1.trans hml) (by subst hstk; rw [List.map_append, List.map_reverse]) (by rw [ctS_ok]; show 2 * 0 + ctS st ≤ 8; omega) hd ⟨by omega, by omega⟩
  exact A_run hr hS hz hls (by omega) K
theorem CTA_of {y : MethodName} {cy : ByteArray} {ny : Nat} {k n : Nat} {h0 : Hp} {as : List cv} {L0 : List (Nat × cv)} (hy : plainName y.cls = true) (hL : ca 0 as = L0) (hlen : ctS as ≤ ny) (body : ∀ κ : Kx, OKA κ cy ny y.cls y.name k mc ms → JA κ 0 L0 [] (n, n, 0, h0) r) : ∀ l w, CTA l w y cy ny k mc ms as n h0 r := by
  intro l w
  refine Met.ofW (cc := cy) (maxL := ny) (ret := none) (ws' := tbl) hy rfl ?_
  intro p e s m args below meth c s₁ B hml hv
  obtain ⟨rfl, hP, hz, hK, hw, hN⟩ := hv
  have hts := atoms_spec (ws := wsA y cy ny none) B.pre
  have hba : w.2.2 1 ≤ s.heap.size := by rw [hz, hw 1, hw (n + 1)]; omega
  have X : OKA (p, l, e, (headSpec (wsA y cy ny none) (rmA k mc ms)).room, s, m, (as.map (tv w)).toArray, below, meth, c, w) cy ny y.cls y.name k mc ms := ⟨B.exec, B.bytes, hml, B.returns, findClass_of_methodNamed B.named, fun q hq => hts q (List.mem_cons_of_mem _ hq), B.notSynchronized, Nat.le_refl _, Nat.le_refl _, rfl, rfl, (name_of_methodNamed B.named B.method).1, hba, hw, hK, hN⟩
  have hl := lv_entry (as.map (tv w)) (n := ny) (by rw [ca_len]; exact hlen)
  rw [lg_entry_eq]
  generalize (lg_sl (as.map (tv w)) ++ List.replicate (ny - (lg_sl (as.map (tv w))).length) Slot.unset).toArray = ls at hl ⊢
  rw [ca_map, hL, ← hml] at hl
  have K := body _ X s.heap [] ls ⟨hP, hz⟩ va_S.rf hl
  rw [show n - n = 0 by omega] at K
  exact K
end A2
