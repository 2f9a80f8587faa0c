/-! ===== the law's two ways round a throw ===== -/
def AwO (w : Wd) : Nat → Prop := fun q => Aw w q ∨ q = w.2.2 401
def hhW : List (Nat × Nat × Nat × Nat) := [(0, 10, 13, 13)]
def wsH (y : MethodName) (cy : ByteArray) : List Cond := .codeWith y cy 5 (some .int) hhW :: tbl
def rmW : Room := { frames := 8, cells := 1, slots := 6, locals := 512 }
def PW (w : Wd) (h : Hp) (o : Int64) : State → Prop := fun U => PX w h U ∧ va_P w.1 vwCl (outW w o) U.heap ∧ ∀ r, 1 ≤ r → r ≤ 185 → w.2.2 r ≠ w.2.2 401
def QW (w : Wd) (h : Hp) (k : Int32) (o : Int64) : Array Value → State → Outcome → State → Prop := fun _ st oc t => oc = .returned (some (.int k)) ∧ va_P w.1 vwCl (wd w h) t.heap ∧ va_P w.1 vwCl (outW w o) t.heap ∧ va_F (AwO w) st t
def XNo : String → State → State → Prop := fun _ _ _ => False
theorem PW_blind {w : Wd} {h : Hp} {o : Int64} {av : List Value} : FrameBlind (va_Pc av (PW w h o)) := by
  intro a U g mk q
  obtain ⟨q0, qW, qO, qA⟩ := q
  have b := PX_blind (w := w) (h := h) (av := av) a U g mk ⟨q0, qW⟩
  exact ⟨q0, b.2, qO, qA⟩
theorem out_set {w : Wd} {o v : Int64} {H : Heap} (h : va_P w.1 vwCl ((outW w o).set 0 (w.2.2 401, .inl (w.2.1 1, 1, .inr (.inl (vp_updL (fun _ => o) 0 v))))) H) : va_P w.1 vwCl (outW w v) H := by
  intro k q hk
  match k, hk with
  | 0, hk =>
    cases hk
    have g : H[w.2.2 401]? = some (arrV (w.2.1 1) 1 (fun j => .long (vp_updL (fun _ => o) 0 v j))) := h 0 _ rfl
    show H[w.2.2 401]? = some (arrV (w.2.1 1) 1 (fun j => .long v))
    rw [g]
    rfl
  | k + 1, hk => cases hk
theorem app_l {w : Wd} {a b : va_W} {H : Heap} (h : va_P w.1 vwCl (a ++ b) H) : va_P w.1 vwCl a H := fun k q hk => h k q (by rw [List.getElem?_append_left (List.getElem?_eq_some_iff.mp hk).1]; exact hk)
theorem app_r {w : Wd} {a b : va_W} {H : Heap} (h : va_P w.1 vwCl (a ++ b) H) : va_P w.1 vwCl b H := fun k q hk => h (a.length + k) q (by rw [List.getElem?_append_right (Nat.le_add_right _ _), Nat.add_sub_cancel_left]; exact hk)
theorem out_D {w : Wd} {h : Hp} {o : Int64} (hw : Wok w) (hap : ∀ r, 1 ≤ r → r ≤ 185 → w.2.2 r ≠ w.2.2 401) : va_D (AwO w) (wd w h ++ outW w o) := by
  have h1 := wd_D hw h
  have one : ∀ (k : Nat) (q : Nat × va_E), (outW w o)[k]? = some q → k = 0 ∧ q.1 = w.2.2 401 := by
    intro k q hk
    match k, hk with
    | 0, hk => cases hk; exact ⟨rfl, rfl⟩
    | k + 1, hk => cases hk
  refine va_D.app ⟨h1.1, fun k q hk => Or.inl (h1.2 k q hk)⟩ ⟨fun i j p q hi hj _ => by rw [(one i p hi).1, (one j q hj).1], fun k q hk => Or.inr (one k q hk).2⟩ (fun i j p q hi hj z => ?_)
  obtain ⟨r, r1, r2, r3⟩ := h1.2 i p hi
  exact hap r r1 r2 (r3.symm.trans (z.trans (one j q hj).2))
def WD (cy : ByteArray) (idx : Nat) : Prop := (decode cy 0 = .ok (.aload_n 3, 1) ∧ decode cy 1 = .ok (.iconst 0, 1) ∧ decode cy 2 = .ok (.aload_n 0, 1) ∧ decode cy 3 = .ok (.iload_n 1, 1) ∧ decode cy 4 = .ok (.iload_n 2, 1)) ∧ decode cy 5 = .ok (.invokevirtual idx, 3) ∧ (decode cy 8 = .ok (.i2l, 1) ∧ decode cy 9 = .ok (.lastore, 1) ∧ decode cy 10 = .ok (.goto 7, 3)) ∧ (decode cy 13 = .ok (.astore 4, 2) ∧ decode cy 15 = .ok (.iconst 1, 1) ∧ decode cy 16 = .ok (.ireturn, 1)) ∧ decode cy 17 = .ok (.iconst 0, 1) ∧ decode cy 18 = .ok (.ireturn, 1)
/-- the call as the wrapper has it: of whom, by what index -/
def WC (idx : Nat) (yc : MethodName) (cc : ByteArray) (nc : Nat) : Prop := Cal yc cc nc (some .int) 2 ∧ Cond.instanceMethod yc ∈ tbl ∧ Cond.selects yc.cls yc yc ∈ tbl ∧ Cond.methodLink "StruckWordsLaw" idx yc ∈ tbl ∧ yc.cls = "StruckWords"
theorem cal_BX {s : State} {R : Room} {args : Array Value} {own : String} {y : MethodName} {cy : ByteArray} {ny : Nat} {ry : Option FieldType} {n idx : Nat} (hts : ∀ q ∈ tbl, q.before args s = true) (hM : Cal y cy ny ry n) (hl : Cond.methodLink own idx y ∈ tbl) (hfr : 8 ≤ R.frames) (hlo : 512 ≤ R.locals) : CallB R s args own idx y cy ny ry (wsA y cy ny ry) rmX 1 6 n := by
  obtain ⟨h1, h2, h3, h4⟩ := hM
  refine callB_of (ws' := tbl) n hts ?_ rfl rfl rfl (hts _ h2) (hts _ hl) h3 ⟨?_, ?_⟩
  · intro w hw
    have hm : w ∈ tbl := by
      rcases List.mem_cons.mp hw with h | h
      · rw [h]; exact h1
      · exact h
    exact ⟨hm, good_of_word (List.all_eq_true.mp tbl_good w hm)⟩
  · show 7 + 1 ≤ R.frames
    omega
  · show 8 + (ny + 11) + 448 ≤ R.locals
    omega
section WRA
variable {y yc : MethodName} {cy cc : ByteArray} {nc idx ky : Nat} {x1 x2 v : Int32} {h : Hp} {l : Launch} {w : Wd} {o : Int64}
/-- the way to the call, and the two ways behind it -/
theorem W_body (hy : plainName y.cls = true) (hyc : y.cls = "StruckWordsLaw") (D : WD cy idx) {k : Int32} {o' : Int64}
    (call : ∀ (p : Program) (e : Env) (R : Room) (s : State) (m : MethodId) (args : Array Value) (below : List Frame) (meth : Method) (c : Code) (ls : Array Slot), 8 ≤ R.frames → 512 ≤ R.locals → 1 ≤ R.cells → 6 ≤ R.slots → p.tables.exec = Jvm.exec → c.code = cy → c.maxLocals = 5 → s.vm.findClass "StruckWordsLaw" = some m.cls → (∀ q ∈ tbl, q.before args s = true) → WS w h s → TXs w s → va_P w.1 vwCl (outW w o) s.heap → c.exceptionTable.toList = tableOf hhW → ls.size = 5 →
      (∀ (H : Heap) (locs : List Loc), va_P w.1 vwCl (wd w h) H → va_P w.1 vwCl (outW w o) H → va_S (AwO w) s.heap H locs → W p l e R s m args below meth c H locs 0 0 (vx_MQ below (QW w h 0 v.toInt64) XNo args s 1 6 (AwO w)) (F0 m 8 ls [.int v, .int 0, .ref (w.2.2 401)])) →
      (∀ (H : Heap) (locs : List Loc) (q : Nat), va_P w.1 vwCl (wd w h) H → va_P w.1 vwCl (outW w o) H → va_S (AwO w) s.heap H locs → W p l e R s m args below meth c H locs 1 6 (vx_MQ below (QW w h 1 o) XNo args s 1 6 (AwO w)) (F0 m 13 ls [.ref q])) →
      W p l e R s m args below meth c s.heap [] 0 0 (vx_MQ below (QW w h k o') XNo args s 1 6 (AwO w)) (F0 m 5 ls [.int x2, .int x1, .ref (w.2.2 1), .int 0, .ref (w.2.2 401)])) :
    vx_Met l y (wsH y cy) rmW (va_Pc ([.inr (.inr 1), .inl x1, .inl x2, .inr (.inr 401)].map (tv w)) (PW w h o)) (QW w h k o') XNo 1 6 (AwO w) := by
  obtain ⟨⟨d0, d1, d2, d3, d4⟩, d5, ⟨d8, d9, d10⟩, ⟨d13, d15, d16⟩, d17, d18⟩ := D
  refine vx_ofWH (cc := cy) (maxL := 5) (ret := some .int) (hh := hhW) (ws' := tbl) hy rfl ?_
  intro p e s m args below meth c s₁ B hml hv
  obtain ⟨rfl, ⟨hWS, hT⟩, hO, hap⟩ := hv
  have hts0 := atoms_spec (ws := wsH y cy) B.pre
  have hts : ∀ q ∈ tbl, q.before ([.inr (.inr 1), .inl x1, .inl x2, .inr (.inr 401)].map (tv w)).toArray s = true := fun q hq => hts0 q (List.mem_cons_of_mem _ hq)
  have hx := B.exec
  have hb := B.bytes
  have hr := B.returns
  have hlk := B.notSynchronized
  have hown : s.vm.findClass "StruckWordsLaw" = some m.cls := by rw [← hyc]; exact findClass_of_methodNamed B.named
  have htab : c.exceptionTable.toList = tableOf hhW := vx_table (x := y) B (hts0 _ List.mem_cons_self)
  have hK := hWS.2.1
  have hl := lv_entry (([.inr (.inr 1), .inl x1, .inl x2, .inr (.inr 401)] : List cv).map (tv w)) (n := 5) (by rw [ca_len]; exact Nat.le_of_ble_eq_true rfl)
  rw [lg_entry_eq]
  generalize (lg_sl (([.inr (.inr 1), .inl x1, .inl x2, .inr (.inr 401)] : List cv).map (tv w)) ++ List.replicate (5 - (lg_sl (([.inr (.inr 1), .inl x1, .inl x2, .inr (.inr 401)] : List cv).map (tv w))).length) Slot.unset).toArray = ls at hl ⊢
  rw [ca_map] at hl
  have l0 := has_at hl (k := 0) (i := 0) (v := .inr (.inr 1)) rfl
  have l1 := has_at hl (k := 1) (i := 1) (v := .inl x1) rfl
  have l2 := has_at hl (k := 2) (i := 2) (v := .inl x2) rfl
  have l3 := has_at hl (k := 3) (i := 3) (v := .inr (.inr 401)) rfl
  rw [tv_ref (show 1 ≠ 0 by decide)] at l0
  rw [tv_ref (show 401 ≠ 0 by decide)] at l3
  refine lv_aload_n (pc := 0) hx hb d0 (i := 3) rfl l3 ?_
  refine lv_iconst (pc := 1) hx hb d1 (v := 0) (by decide) ?_
  refine lv_aload_n (pc := 2) hx hb d2 (i := 0) rfl l0 ?_
  refine lv_iload_n (pc := 3) hx hb d3 (i := 1) rfl l1 ?_
  refine lv_iload_n (pc := 4) hx hb d4 (i := 2) rfl l2 ?_
  refine call p e _ s m _ below meth c ls (Nat.le_refl _) (Nat.le_refl _) (Nat.le_refl _) (Nat.le_refl _) hx hb hml hown hts hWS hT hO htab hl.1 (fun H locs hP1 hO1 hS1 => ?_) (fun H locs q hP1 hO1 hS1 => ?_)
  · refine lv_i2l (pc := 8) hx hb d8 rfl ?_
    refine va_last (pc := 9) hx hb hK (hP1.app hO1) (out_D hWS.2.2.1 hap) hS1 185 1 (a := w.2.2 401) (cA := w.2.1 1) (n := 1) (f := fun _ => o) ?_ rfl (inb_in (show inb 0 1 = true by decide)) d9 (fun H2 locs2 hP2 hD2 hS2 => ?_)
    · rw [List.getElem?_append_right (by rw [wd_len]; exact Nat.le_refl _), wd_len]; rfl
    · rw [List.set_append_right _ _ (by rw [wd_len]; exact Nat.le_refl _), wd_len] at hP2
      refine lv_goto (pc := 10) (tgt := 17) hx hb d10 rfl ?_
      refine lv_iconst (pc := 17) hx hb d17 (v := 0) (by decide) ?_
      refine W.widen (k := 1) (n := 6) (by decide) (by decide) ?_
      exact vx_ret (W.iret hx hb hr (fun t ht hW => ⟨rfl, by rw [ht]; exact app_l hP2, by rw [ht]; exact out_set (app_r hP2), hS2.F ht⟩) hS2.2.2 d18 hlk)
  · refine lv_astore (pc := 13) hx hb d13 hl (by decide) rfl (fun ls' hl' => ?_)
    refine lv_iconst (pc := 15) hx hb d15 (v := 1) (by decide) ?_
    exact vx_ret (W.iret hx hb hr (fun t ht hW => ⟨rfl, by rw [ht]; exact hP1, by rw [ht]; exact hO1, hS1.F ht⟩) hS1.2.2 d16 hlk)
theorem out_kept {s : State} {H : Heap} (hap : ∀ r, 1 ≤ r → r ≤ 185 → w.2.2 r ≠ w.2.2 401) (hO : va_P w.1 vwCl (outW w o) s.heap) (hk : ∀ q : Nat, q < s.heap.size → ¬ Aw w q → H[q]? = s.heap[q]?) : va_P w.1 vwCl (outW w o) H := hO.kept (fun k q hq => by
  have lt := (hO k q hq).lt
  refine hk q.1 lt (fun z => ?_)
  obtain ⟨r, h1, h2, h3⟩ := z
  have : q.1 = w.2.2 401 := by
    match k, hq with
    | 0, hq => cases hq; rfl
    | k + 1, hq => cases hq
  exact hap r h1 h2 (h3.symm.trans this))
end WRA
section WRB
variable {y yc : MethodName} {cy cc : ByteArray} {nc idx ky : Nat} {x1 x2 v : Int32} {h : Hp} {l : Launch} {w : Wd} {o : Int64}
theorem WM_good (hy : plainName y.cls = true) (hyc : y.cls = "StruckWordsLaw") (D : WD cy idx) (C : WC idx yc cc nc) (hky : ky + 1 ≤ 8) (hap : ∀ r, 1 ≤ r → r ≤ 185 → w.2.2 r ≠ w.2.2 401) (hc : CT l w yc cc nc (some .int) ky [.inr (.inr 1), .inl x1, .inl x2] h (some (.inl v), h)) :
    vx_Met l y (wsH y cy) rmW (va_Pc ([.inr (.inr 1), .inl x1, .inl x2, .inr (.inr 401)].map (tv w)) (PW w h o)) (QW w h 0 v.toInt64) XNo 1 6 (AwO w) := by
  obtain ⟨hM, hi, hs, hl, hcls⟩ := C
  refine W_body (v := v) hy hyc D ?_
  intro p e R s m args below meth c ls r1 r2 r3 r4 hx hb hml hown hts hWS hT hO htab hsz kg kb
  obtain ⟨hP, hK, hw, hC, hN⟩ := id hWS
  have hcw : CallW R s args "StruckWordsLaw" yc.cls idx yc cc nc (some .int) (wsA yc cc nc (some .int)) (rmk ky) 0 0 2 := ⟨cal_B hts hM hl (lv := 8) r1 (by omega) hky, hts _ hi, hts _ hs⟩
  have hrc := va_recv hK hP (ci := 10) rfl ((wd_at ly1).trans (by rw [cel_o ly1]))
  have e1 : tv w (.inr (.inr 1)) = .ref (w.2.2 1) := tv_ref (by decide)
  have hr := va_runV (locs := []) (cells := 0) (slots := 0) (meth := meth) (e := e) (below := below) (b := w.2.2 1) (As := [.int x1, .int x2]) (rest := [.int 0, .ref (w.2.2 401)]) (g := F0 m 5 ls [.int x2, .int x1, .ref (w.2.2 1), .int 0, .ref (w.2.2 401)]) ⟨hx, hb, hml, hown, hts⟩ hc hcw
    ⟨WS_blind, by rw [hcls]; exact hrc, fun U hU hW => ⟨by rw [List.map_cons, e1]; rfl, WS_end hP va_S.rf hK hw hC hN hU hW⟩⟩ rfl rfl hsz rfl (Nat.le_of_ble_eq_true rfl) D.2.1 ⟨Nat.zero_le _, Nat.zero_le _⟩
  intro T hT2 X
  obtain ⟨v', st₀, t, T', L2, h0, X', hL, e3, e4, ⟨hv, hWS2, hz, hk⟩, stp⟩ := hr T hT2 X
  cases hv
  rw [h0] at hz hk
  have hS2 : va_S (AwO w) s.heap T'.heap ([] ++ L2) := ⟨by rw [e3]; exact hz, fun q h1 h2 => by rw [e3]; exact hk q h1 (fun z => h2 (Or.inl z)), fun q hq => Or.inl (hL q (by simpa using hq))⟩
  obtain ⟨t2, a1, b1⟩ := kg T'.heap ([] ++ L2) (by rw [e3]; exact hWS2.1) (out_kept hap hO (fun q h1 h2 => by rw [e3]; exact hk q h1 h2)) hS2 T' rfl X'
  exact ⟨t2, stp t2 a1, b1⟩
theorem WM_bad (hy : plainName y.cls = true) (hyc : y.cls = "StruckWordsLaw") (D : WD cy idx) (C : WC idx yc cc nc) (hap : ∀ r, 1 ≤ r → r ≤ 185 → w.2.2 r ≠ w.2.2 401) (hc : vx_Met l yc (wsA yc cc nc (some .int)) rmX (va_Pc ([.inr (.inr 1), .inl x1, .inl x2].map (tv w)) (PX w h)) QN (XCw w h) 1 6 (Aw w)) :
    vx_Met l y (wsH y cy) rmW (va_Pc ([.inr (.inr 1), .inl x1, .inl x2, .inr (.inr 401)].map (tv w)) (PW w h o)) (QW w h 1 o) XNo 1 6 (AwO w) := by
  obtain ⟨hM, hi, hs, hl, hcls⟩ := C
  refine W_body (v := 0) hy hyc D ?_
  intro p e R s m args below meth c ls r1 r2 r3 r4 hx hb hml hown hts hWS hT hO htab hsz kg kb
  obtain ⟨hP, hK, hw, hC, hN⟩ := id hWS
  have hcw : CallW R s args "StruckWordsLaw" yc.cls idx yc cc nc (some .int) (wsA yc cc nc (some .int)) rmX 1 6 2 := ⟨cal_BX hts hM hl r1 r2, hts _ hi, hts _ hs⟩
  have hrc := va_recv hK hP (ci := 10) rfl ((wd_at ly1).trans (by rw [cel_o ly1]))
  have e1 : tv w (.inr (.inr 1)) = .ref (w.2.2 1) := tv_ref (by decide)
  have hr := vx_runV (locs := []) (cells := 0) (slots := 0) (meth := meth) (e := e) (below := below) (b := w.2.2 1) (As := [.int x1, .int x2]) (rest := [.int 0, .ref (w.2.2 401)]) (g := F0 m 5 ls [.int x2, .int x1, .ref (w.2.2 1), .int 0, .ref (w.2.2 401)]) ⟨hx, hb, hml, hown, hts⟩ hc hcw
    ⟨PX_blind, by rw [hcls]; exact hrc, fun U hU hW => ⟨by rw [List.map_cons, e1]; rfl, WS_end hP va_S.rf hK hw hC hN hU hW, TXs.warm hW (fun _ _ _ => by rw [hU]) hT⟩⟩ rfl rfl hsz rfl (Nat.le_of_ble_eq_true rfl) D.2.1 ⟨by omega, by omega⟩
  intro T hT2 X
  rcases hr T hT2 X with ⟨v', st₀, t, T', L2, h0, X', hL, e3, e4, hQ, stp⟩ | ⟨q, st₀, t, T', L2, E, ce, h0, X', hL, e3, e4, ⟨rfl, hPt, hz, hk⟩, hce, hcv, hcl, stp⟩
  · exact hQ.elim
  · rw [h0] at hz hk
    have hS2 : va_S (AwO w) s.heap T'.heap ([] ++ L2) := ⟨by rw [e3]; exact hz, fun q h1 h2 => by rw [e3]; exact hk q h1 (fun z => h2 (Or.inl z)), fun q hq => Or.inl (hL q (by simpa using hq))⟩
    have K := vx_catch0 (pc := 5) (rest := [.int 0, .ref (w.2.2 401)]) (cells := 0 + 1) (slots := 0 + 6) (l := l) (own := "StruckWordsLaw") (name := xE) (E := xE) (ce := ce) (q := q) hown _ [] htab rfl (by decide) (hts _ (x_tb _ (List.mem_cons_of_mem _ (List.mem_cons_of_mem _ List.mem_cons_self)))) (va_Nw.use rfl hT.2.1.1) (by rw [e3]; exact hce) hcv hcl
      (kb T'.heap ([] ++ L2) q (by rw [e3]; exact hPt) (out_kept hap hO (fun q h1 h2 => by rw [e3]; exact hk q h1 h2)) hS2)
    obtain ⟨t2, a1, b1⟩ := K T' rfl X'
    exact ⟨t2, stp.trans a1, b1⟩
end WRB
theorem wD_word : WD cL_word 7 := ⟨⟨dL_word_0, dL_word_1, dL_word_2, dL_word_3, dL_word_4⟩, dL_word_5, ⟨dL_word_8, dL_word_9, dL_word_10⟩, ⟨dL_word_13, dL_word_15, dL_word_16⟩, dL_word_17, dL_word_18⟩
theorem wD_known : WD cL_known 15 := ⟨⟨dL_known_0, dL_known_1, dL_known_2, dL_known_3, dL_known_4⟩, dL_known_5, ⟨dL_known_8, dL_known_9, dL_known_10⟩, ⟨dL_known_13, dL_known_15, dL_known_16⟩, dL_known_17, dL_known_18⟩
theorem wC_word : WC 7 yX12_word cX12_word 4 := ⟨ca_X12_word, ci_X12_word, cs_X12_word, ml_L_7, rfl⟩
theorem wC_known : WC 15 yX12_known cX12_known 6 := ⟨ca_X12_known, ci_X12_known, cs_X12_known, ml_L_15, rfl⟩
