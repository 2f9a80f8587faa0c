/-! the same rows, to any end -/
def JT (κ : Kx) (pc : Nat) (L : List (Nat × cv)) (st : List cv) (h : Hp) (Q : State → Prop) : Prop := match κ with
  | (p, l, e, R, s, m, args, below, meth, c, w) => ∀ (H : Heap) (locs : List Loc) (ls : Array Slot), va_P w.1 vwCl (wd w h) H → va_S (Aw w) s.heap H locs → lv_has ls c.maxLocals (L.map (tl w)) → W p l e R s m args below meth c H locs 0 0 Q (F0 m pc ls (st.map (tv w)))
section JTT
variable {κ : Kx} {cc : ByteArray} {nL : Nat} {ret : Option FieldType} {own : String} {lv pc : Nat} {L L' : List (Nat × cv)} {st : List cv} {h : Hp} {Q : State → Prop}
theorem T_iconst (X : OK κ cc nL ret own lv) {n : Int} {v : Int32} (hv : Int32.ofInt n = v) (hd : decode cc pc = .ok (.iconst n, 1)) (K : JT κ (pc + 1) L (.inl v :: st) h Q) : JT κ pc L st h Q := by
  obtain ⟨p, l, e, R, s, m, args, below, meth, c, w⟩ := κ
  obtain ⟨hx, hb, hml, hr, hown, hts, hlk, hfr, hlo, hw, hK, hC, hN⟩ := X
  intro H locs ls hP hS hl
  exact lv_iconst hx hb hd hv (K H locs ls hP hS hl)
theorem T_iload_n (X : OK κ cc nL ret own lv) {k : Fin 4} {j i : Nat} {x : Int32} (hi : (k : Nat) = i) (hk : L[j]? = some (i, .inl x)) (hd : decode cc pc = .ok (.iload_n k, 1)) (K : JT κ (pc + 1) L (.inl x :: st) h Q) : JT κ pc L st h Q := by
  obtain ⟨p, l, e, R, s, m, args, below, meth, c, w⟩ := κ
  obtain ⟨hx, hb, hml, hr, hown, hts, hlk, hfr, hlo, hw, hK, hC, hN⟩ := X
  intro H locs ls hP hS hl
  exact lv_iload_n hx hb hd hi (has_at hl hk) (K H locs ls hP hS hl)
theorem T_aload_n (X : OK κ cc nL ret own lv) {k : Fin 4} {j i x : Nat} (hi : (k : Nat) = i) (hk : L[j]? = some (i, .inr (.inr x))) (hd : decode cc pc = .ok (.aload_n k, 1)) (K : JT κ (pc + 1) L (.inr (.inr x) :: st) h Q) : JT κ pc L st h Q := by
  obtain ⟨p, l, e, R, s, m, args, below, meth, c, w⟩ := κ
  obtain ⟨hx, hb, hml, hr, hown, hts, hlk, hfr, hlo, hw, hK, hC, hN⟩ := X
  intro H locs ls hP hS hl
  have hv := has_at hl hk
  have K := K H locs ls hP hS hl
  rw [List.map_cons] at K
  by_cases h0 : x = 0
  · subst h0
    exact lv_aload_nN hx hb hd hi hv K
  · have e : tv w (.inr (.inr x)) = .ref (w.2.2 x) := by show va_rf (rr w.2.2 x) = _; unfold rr; rw [if_neg h0]; rfl
    rw [e] at hv K
    exact lv_aload_n hx hb hd hi hv K
theorem T_astore_n (X : OK κ cc nL ret own lv) {i x : Nat} {k : Fin 4} (hi : (k : Nat) = i) (hn : i < nL) (hL : st1 L i (.inr (.inr x)) = L') (hd : decode cc pc = .ok (.astore_n k, 1)) (K : JT κ (pc + 1) L' st h Q) : JT κ pc L (.inr (.inr x) :: st) h Q := by
  obtain ⟨p, l, e, R, s, m, args, below, meth, c, w⟩ := κ
  obtain ⟨hx, hb, hml, hr, hown, hts, hlk, hfr, hlo, hw, hK, hC, hN⟩ := X
  intro H locs ls hP hS hl
  have hf := (st1_map w L i (.inr (.inr x))).trans (by rw [hL])
  rw [List.map_cons]
  by_cases h0 : x = 0
  · subst h0
    exact lv_astore_nN hx hb hd hi hl (by omega) hf (fun ls' hl' => K H locs ls' hP hS hl')
  · have e : tv w (.inr (.inr x)) = .ref (w.2.2 x) := by show va_rf (rr w.2.2 x) = _; unfold rr; rw [if_neg h0]; rfl
    rw [e] at hf ⊢
    exact lv_astore_n hx hb hd hi hl (by omega) hf (fun ls' hl' => K H locs ls' hP hS hl')
theorem T_if_eq (X : OK κ cc nL ret own lv) {x : Int32} {off : Int} {tgt : Nat} (hd : decode cc pc = .ok (.ifCond .eq off, 3)) (ht : (pc : Int) + off = (tgt : Int)) (kt : x = 0 → JT κ tgt L st h Q) (kf : ¬ x = 0 → JT κ (pc + 3) L st h Q) : JT κ pc L (.inl x :: st) h Q := by
  obtain ⟨p, l, e, R, s, m, args, below, meth, c, w⟩ := κ
  obtain ⟨hx, hb, hml, hr, hown, hts, hlk, hfr, hlo, hw, hK, hC, hN⟩ := X
  intro H locs ls hP hS hl
  exact lv_if_eq hx hb hd ht (fun q => kt q H locs ls hP hS hl) (fun q => kf q H locs ls hP hS hl)
theorem T_if_lt (X : OK κ cc nL ret own lv) {x : Int32} {off : Int} {tgt : Nat} (hd : decode cc pc = .ok (.ifCond .lt off, 3)) (ht : (pc : Int) + off = (tgt : Int)) (kt : x < 0 → JT κ tgt L st h Q) (kf : ¬ x < 0 → JT κ (pc + 3) L st h Q) : JT κ pc L (.inl x :: st) h Q := by
  obtain ⟨p, l, e, R, s, m, args, below, meth, c, w⟩ := κ
  obtain ⟨hx, hb, hml, hr, hown, hts, hlk, hfr, hlo, hw, hK, hC, hN⟩ := X
  intro H locs ls hP hS hl
  exact lv_if_lt hx hb hd ht (fun q => kt q H locs ls hP hS hl) (fun q => kf q H locs ls hP hS hl)
theorem T_icmp_le (X : OK κ cc nL ret own lv) {x y : Int32} {off : Int} {tgt : Nat} (hd : decode cc pc = .ok (.if_icmp .le off, 3)) (ht : (pc : Int) + off = (tgt : Int)) (kt : x ≤ y → JT κ tgt L st h Q) (kf : ¬ x ≤ y → JT κ (pc + 3) L st h Q) : JT κ pc L (.inl y :: .inl x :: st) h Q := by
  obtain ⟨p, l, e, R, s, m, args, below, meth, c, w⟩ := κ
  obtain ⟨hx, hb, hml, hr, hown, hts, hlk, hfr, hlo, hw, hK, hC, hN⟩ := X
  intro H locs ls hP hS hl
  exact lv_icmp_le hx hb hd ht (fun q => kt q H locs ls hP hS hl) (fun q => kf q H locs ls hP hS hl)
theorem T_getF (X : OK κ cc nL ret own lv) {a b ci k idx o : Nat} (ha : lay a = some (.inl ci)) (hf : FL own idx ci k (2, o)) (hb2 : a + o = b) (hd : decode cc pc = .ok (.getfield idx, 3)) (K : JT κ (pc + 3) L (.inr (.inr b) :: st) h Q) : JT κ pc L (.inr (.inr a) :: st) h Q := by
  obtain ⟨p, l, e, R, s, m, args, below, meth, c, w⟩ := κ
  obtain ⟨hx, hb, hml, hr, hown, hts, hlk, hfr, hlo, hw, hK, hC, hN⟩ := X
  intro H locs ls hP hS hl
  subst hb2
  have e : tv w (.inr (.inr (a + o))) = .ref (w.2.2 (a + o)) := tv_ref (by have := (lay_in ha).1; omega)
  have K := K H locs ls hP hS hl
  rw [List.map_cons, e] at K
  exact J_get0 hx hb hts hown hK hP ha hf hd K
theorem T_run {p : Program} {l : Launch} {e : Env} {R : Room} {s : State} {m : MethodId} {args : Array Value} {below : List Frame} {meth : Method} {c : Code} {w : Wd} {H : Heap} {locs : List Loc} {ls : Array Slot} {stk st : List cv} {r1 : Option cv × Hp} {a : Array Value}
    (hr : va_Run p l e R s m args below meth c H locs 0 0 0 0 (F0 m pc ls (stk.map (tv w))) (st.map (tv w)) (Qe w r1 a) (Aw w)) (hS : va_S (Aw w) s.heap H locs) (hl : lv_has ls c.maxLocals (L.map (tl w)))
    (K : JT (p, l, e, R, s, m, args, below, meth, c, w) (pc + 3) L (r1.1.toList ++ st) r1.2 Q) : W p l e R s m args below meth c H locs 0 0 Q (F0 m pc ls (stk.map (tv w))) := by
  intro T hT X
  obtain ⟨v, st₀, t, T', L2, h0, X', hL, e1, e2, ⟨hv, hWS, hz, hk⟩, stp⟩ := hr T hT X
  cases hv
  rw [h0] at hz hk
  have hP1 : va_P w.1 vwCl (wd w r1.2) T'.heap := by rw [e1]; exact hWS.1
  obtain ⟨t2, a1, b1⟩ := K T'.heap (locs ++ L2) ls hP1 ⟨Nat.le_trans hS.1 (by rw [e1]; exact hz), fun q h1 h2 => by rw [e1, hk q (Nat.lt_of_lt_of_le h1 hS.1) h2]; exact hS.2.1 q h1 h2, fun q hq => by
      rcases List.mem_append.mp hq with h | h
      · exact hS.2.2 q h
      · exact hL q h⟩ hl T' rfl X'
  refine ⟨t2, stp t2 ?_, b1⟩
  have e3 : (r1.1.map (tv w)).toList ++ st.map (tv w) = (r1.1.toList ++ st).map (tv w) := by
    rw [List.map_append]
    cases r1.1 <;> rfl
  rw [e3]
  exact a1
theorem T_callV (X : OK κ cc nL ret own lv) {y : MethodName} {cy : ByteArray} {ny : Nat} {ry : Option FieldType} {n ky idx a ci : Nat} {q : vw_C} {as stk st2 : List cv} {r1 : Option cv × Hp} {h2 : Hp} (hd : decode cc pc = .ok (.invokevirtual idx, 3)) (hM : Cal y cy ny ry n) (hi : Cond.instanceMethod y ∈ tbl) (hs : Cond.selects y.cls y y ∈ tbl) (hl : Cond.methodLink own idx y ∈ tbl) (hk : ky + 1 ≤ lv) (ha : lay a = some (.inl ci)) (hq : vwCl[ci]? = some q) (hqc : q.1 = y.cls) (hc : ∀ l w, CT l w y cy ny ry ky (.inr (.inr a) :: as) h r1) (hn : as.length = n) (hstk : stk = as.reverse ++ .inr (.inr a) :: st) (hct : ctS st ≤ 8) (e1 : r1.1.toList ++ st = st2) (e2 : r1.2 = h2) (K : JT κ (pc + 3) L st2 h2 Q) : JT κ pc L stk h Q := by
  subst e1; subst e2
  obtain ⟨p, l, e, R, s, m, args, below, meth, c, w⟩ := κ
  obtain ⟨hx, hb, hml, hr, hown, hts, hlk, hfr, hlo, hw, hK, hC, hN⟩ := X
  intro H locs ls hP hS hls
  have e0 : tv w (.inr (.inr a)) = .ref (w.2.2 a) := tv_ref (by have := (lay_in ha).1; omega)
  have hcw : CallW R s args own y.cls idx y cy ny ry (wsA y cy ny ry) (rmk ky) 0 0 n := ⟨cal_B hts hM hl hfr hlo hk, hts _ hi, hts _ hs⟩
  have hrc := va_recv hK hP hq ((wd_at ha).trans (by rw [cel_o ha]))
  rw [hqc] at hrc
  have hr := va_runV (locs := locs) (cells := 0) (slots := 0) (meth := meth) (e := e) (below := below) (b := w.2.2 a) (As := as.map (tv w)) (rest := st.map (tv w)) (g := F0 m pc ls (stk.map (tv w))) ⟨hx, hb, hml, hown, hts⟩ (hc l w) hcw
    ⟨WS_blind, hrc, fun U hU hW => ⟨by rw [List.map_cons, e0], WS_end hP hS hK hw hC hN hU hW⟩⟩ rfl (by rw [List.length_map]; exact hn) (hls.1.trans hml) (by subst hstk; rw [rev_map, e0]) (by rw [ctS_ok]; show 2 * 0 + ctS st ≤ 8; omega) hd ⟨Nat.zero_le _, Nat.zero_le _⟩
  exact T_run hr hS hls K
theorem T_callS (X : OK κ cc nL ret own lv) {y : MethodName} {cy : ByteArray} {ny : Nat} {ry : Option FieldType} {n ky idx : Nat} {as stk st2 : List cv} {r1 : Option cv × Hp} {h2 : Hp} (hd : decode cc pc = .ok (.invokestatic idx, 3)) (hM : Cal y cy ny ry n) (hi : Cond.static y ∈ tbl) (hl : Cond.methodLink own idx y ∈ tbl) (hk : ky + 1 ≤ lv) (hc : ∀ l w, CT l w y cy ny ry ky as h r1) (hn : as.length = n) (hstk : stk = as.reverse ++ st) (hct : ctS st ≤ 8) (e1 : r1.1.toList ++ st = st2) (e2 : r1.2 = h2) (K : JT κ (pc + 3) L st2 h2 Q) : JT κ pc L stk h Q := by
  subst e1; subst e2
  obtain ⟨p, l, e, R, s, m, args, below, meth, c, w⟩ := κ
  obtain ⟨hx, hb, hml, hr, hown, hts, hlk, hfr, hlo, hw, hK, hC, hN⟩ := X
  intro H locs ls hP hS hls
  have hr := va_runS (locs := locs) (cells := 0) (slots := 0) (meth := meth) (e := e) (below := below) (As := as.map (tv w)) (rest := st.map (tv w)) (g := F0 m pc ls (stk.map (tv w))) ⟨hx, hb, hml, hown, hts⟩ (hc l w) ⟨cal_B hts hM hl hfr hlo hk, hts _ hi⟩
    ⟨WS_blind, fun U hU hW => ⟨rfl, WS_end hP hS hK hw hC hN hU hW⟩⟩ rfl (by rw [List.length_map]; exact hn) (hls.1.trans hml) (by subst hstk; rw [List.map_append, List.map_reverse]) (by rw [ctS_ok]; show 2 * 0 + ctS st ≤ 8; omega) hd ⟨Nat.zero_le _, Nat.zero_le _⟩
  exact T_run hr hS hls K
end JTT
/-! ===== the class's throw ===== -/
def xE : String := "java/util/NoSuchElementException"
def xR : String := "java/lang/RuntimeException"
def xN : List String := ["java/lang/Exception"]
def x13 : ByteArray := ⟨#[0x2a, 0x2b, 0xb7, 0x00, 0x0d, 0xb1]⟩
theorem x13_0 : decode x13 0 = .ok (.aload_n 0, 1) := by decide +kernel
theorem x13_1 : decode x13 1 = .ok (.aload_n 1, 1) := by decide +kernel
theorem x13_2 : decode x13 2 = .ok (.invokespecial 13, 3) := by decide +kernel
theorem x13_5 : decode x13 5 = .ok (.return_, 1) := by decide +kernel
def xL : List Cond := (xAtoms "StruckWords" 106 xE 13 x13 xR xN).filter vx_no
def xB : List Cond := [.castable xE xE, .declares (Bundle.initS xR), .declares (Bundle.initS "java/lang/Exception"), .declares (Bundle.initS Bundle.tN)]
theorem x_in : ∀ w ∈ xL.filter goodWord, w ∈ tbl := by decide +kernel
theorem x_no : ∀ w ∈ xL.filter (fun w => !goodWord w), w ∈ xB := by decide +kernel
theorem x_ot : ∀ w ∈ Cond.classLink "StruckWords" 102 xE :: Cond.initialized xE :: xL, vx_ot w = true := by decide +kernel
theorem x_tb : ∀ w ∈ [Cond.classLink "StruckWords" 102 xE, Cond.initialized xE, Cond.classLink "StruckWordsLaw" 13 xE], w ∈ tbl := by decide +kernel
theorem x_fit : Bundle.fit xE = true ∧ Bundle.fit xR = true ∧ ∀ n ∈ xN, Bundle.fit n = true := by decide +kernel
def TXw (U : State) : Prop := va_Nw (.castable xE xE) U ∧ va_Nw (.declares (Bundle.initS xR)) U ∧ va_Nw (.declares (Bundle.initS "java/lang/Exception")) U ∧ va_Nw (.declares (Bundle.initS Bundle.tN)) U
/-- what a throw stands on besides the tables' good words -/
def TXs (w : Wd) (U : State) : Prop := ((∃ sa, vk_R "StruckWords" 104 "no such saying, or nothing such of it" sa U) ∧ ∃ sa, vk_R "StruckWords" 233 "no such meaning, or neither above nor below" sa U) ∧ TXw U ∧ vx_Zq Bundle.tN "UNASSIGNED_STACK" Bundle.steD (Aw w) U U.heap ∧ vx_Zq Bundle.tN "SUPPRESSED_SENTINEL" Bundle.listD (Aw w) U U.heap
theorem TXs.warm {w : Wd} {s U : State} (hW : s.WarmedH U.vm) (hq : ∀ a : Nat, a < s.heap.size → ¬ Aw w a → U.heap[a]? = s.heap[a]?) (h : TXs w s) : TXs w U := by
  obtain ⟨⟨⟨a, ha⟩, ⟨b, hb⟩⟩, ⟨t1, t2, t3, t4⟩, z1, z2⟩ := h
  exact ⟨⟨⟨a, vk_R.warm hW ha⟩, ⟨b, vk_R.warm hW hb⟩⟩, ⟨va_Nw.warmC hW t1, va_Nw.warmD hW t2, va_Nw.warmD hW t3, va_Nw.warmD hW t4⟩, vx_Zq.moved hW.alike (z1.kept hq), vx_Zq.moved hW.alike (z2.kept hq)⟩
theorem x_hat {args : Array Value} {s : State} (hts : ∀ q ∈ tbl, q.before args s = true) (hT : TXw s) : ∀ w ∈ xL, w.before args s = true :=
  vx_hat (B := xB) (fun w hw => hts w (x_in w hw)) x_no (vx_c (va_Nw.use rfl hT.1) (vx_c (va_Nw.use rfl hT.2.1) (vx_c (va_Nw.use rfl hT.2.2.1) (vx_c (va_Nw.use rfl hT.2.2.2) vx_n))))
/-- what is known where it was thrown -/
def XCw (w : Wd) (h : Hp) : String → State → State → Prop := fun E st t => E = xE ∧ va_P w.1 vwCl (wd w h) t.heap ∧ va_F (Aw w) st t
def QN : Array Value → State → Outcome → State → Prop := fun _ _ _ _ => False
section TTH
variable {p : Program} {l : Launch} {e : Env} {R : Room} {s : State} {m : MethodId} {args : Array Value} {below : List Frame} {meth : Method} {c : Code} {w : Wd} {cc : ByteArray} {nL lv pc is : Nat} {ret : Option FieldType} {text : String} {L : List (Nat × cv)} {h : Hp}
theorem T_throw (X : OK (p, l, e, R, s, m, args, below, meth, c, w) cc nL ret "StruckWords" lv) (hst : l.stackTraces = false) (hT : TXs w s) (hstr : ∃ sa, vk_R "StruckWords" is text sa s) (hnt : ∀ x ∈ c.exceptionTable.toList, False) (hlv : 7 ≤ lv) (hRc : 1 ≤ R.cells) (hRs : 6 ≤ R.slots)
    (d0 : decode cc pc = .ok (.new 102, 3)) (d3 : decode cc (pc + 3) = .ok (.dup, 1)) (d4 : decode cc (pc + 4) = .ok (.ldc is, 2)) (d6 : decode cc (pc + 6) = .ok (.invokespecial 106, 3)) (d9 : decode cc (pc + 9) = .ok (.athrow, 1)) :
    JT (p, l, e, R, s, m, args, below, meth, c, w) pc L [] h (vx_MQ below QN (XCw w h) args s 1 6 (Aw w)) := by
  obtain ⟨hx, hb, hml, hr, hown, hts, hlk, hfr, hlo, hw, hK, hC, hN⟩ := X
  obtain ⟨sa, hstr⟩ := hstr
  intro H locs ls hP hS hl
  exact xt_throwS hx hb hst (own := "StruckWords") (cls := xE) (text := text) (Y9 := xR) (names := xN) (ik := 102) (is := is) (ic := 106) (ix := 13) (bx := x13) (A := Aw w) x13_0 x13_1 x13_2 x13_5 hown x_fit.1 x_fit.2.1 x_fit.2.2 (hts _ (x_tb _ (List.mem_cons_self))) (hts _ (x_tb _ (List.mem_cons_of_mem _ List.mem_cons_self))) hstr (x_hat hts hT.2.1) x_ot hT.2.2.1 hT.2.2.2 hS hl.1 d0 d3 d4 d6 d9 (fun x hx => (hnt x hx).elim) (by show 1 + 4 < R.frames; omega) (by show 0 + (13 * (1 + 2) + 43) ≤ R.locals; omega) (by omega) (by omega) hlk (fun t hal hsz hk => ⟨rfl, hP.kept (fun k q hq => hk q.1 (hP k q hq).lt), Nat.le_trans hS.1 hsz, fun q h1 h2 => (hk q (Nat.lt_of_lt_of_le h1 hS.1)).trans (hS.2.1 q h1 h2)⟩) hS.2.2 (by omega) (by omega)
theorem tx_word {x1 x2 : Int32} (X : OK (p, l, e, R, s, m, args, below, meth, c, w) cX12_word 4 (some .int) "StruckWords" 7) (hst : l.stackTraces = false) (hT : TXs w s) (hnt : ∀ x ∈ c.exceptionTable.toList, False) (hRc : 1 ≤ R.cells) (hRs : 6 ≤ R.slots) (hbad : badW x1 x2 h) :
    JT (p, l, e, R, s, m, args, below, meth, c, w) 0 [(0, .inr (.inr 1)), (1, .inl x1), (2, .inl x2)] [] h (vx_MQ below QN (XCw w h) args s 1 6 (Aw w)) := by
  have thr : ∀ L, JT (p, l, e, R, s, m, args, below, meth, c, w) 25 L [] h (vx_MQ below QN (XCw w h) args s 1 6 (Aw w)) := fun L => T_throw X hst hT hT.1.1 hnt (by decide) hRc hRs dX12_word_25 dX12_word_28 dX12_word_29 dX12_word_31 dX12_word_34
  refine T_aload_n (pc := 0) X (j := 0) (i := 0) rfl rfl dX12_word_0 ?_
  refine T_getF (pc := 1) X (b := 6) ly1 fl_12_28 rfl dX12_word_1 ?_
  refine T_getF (pc := 4) X (b := 7) ly6 fl_12_95 rfl dX12_word_4 ?_
  refine T_astore_n (pc := 7) X (L' := [(3, .inr (.inr 7)), (0, .inr (.inr 1)), (1, .inl x1), (2, .inl x2)]) (i := 3) rfl (by decide) rfl dX12_word_7 ?_
  refine T_aload_n (pc := 8) X (j := 0) (i := 3) rfl rfl dX12_word_8 ?_
  refine T_iload_n (pc := 9) X (j := 2) (i := 1) rfl rfl dX12_word_9 ?_
  rcases hbad with hc | ⟨hc, hy⟩
  · refine T_callV (pc := 10) (as := [.inl x1]) (st := []) (st2 := [.inl 0]) (r1 := (some (.inl 0), h)) (h2 := h) (ky := 1) X dX12_word_10 ca_X10_hasSaying ci_X10_hasSaying cs_X10_hasSaying ml_12_98 (by decide) ly7 rfl rfl (m_X10_hasSaying _ _ _ _ ly7 hc) rfl rfl (Nat.le_of_ble_eq_true rfl) rfl rfl ?_
    exact T_if_eq (pc := 13) (tgt := 25) X dX12_word_13 rfl (fun _ => thr _) (fun z => absurd rfl z)
  · refine T_callV (pc := 10) (as := [.inl x1]) (st := []) (st2 := [.inl 1]) (r1 := (some (.inl 1), h)) (h2 := h) (ky := 1) X dX12_word_10 ca_X10_hasSaying ci_X10_hasSaying cs_X10_hasSaying ml_12_98 (by decide) ly7 rfl rfl (m_X10_hasSaying _ _ _ _ ly7 hc) rfl rfl (Nat.le_of_ble_eq_true rfl) rfl rfl ?_
    refine T_if_eq (pc := 13) (tgt := 25) X dX12_word_13 rfl (fun z => absurd z (by decide)) (fun _ => ?_)
    refine T_iload_n (pc := 16) X (j := 3) (i := 2) rfl rfl dX12_word_16 ?_
    rcases hy with hy | ⟨hy, hy2⟩
    · exact T_if_lt (pc := 17) (tgt := 25) X dX12_word_17 rfl (fun _ => thr _) (fun z => absurd hy z)
    · refine T_if_lt (pc := 17) (tgt := 25) X dX12_word_17 rfl (fun z => absurd z hy) (fun _ => ?_)
      refine T_iload_n (pc := 20) X (j := 3) (i := 2) rfl rfl dX12_word_20 ?_
      refine T_iconst (pc := 21) X (v := 4) (by decide) dX12_word_21 ?_
      exact T_icmp_le (pc := 22) (tgt := 35) X dX12_word_22 rfl (fun z => absurd z hy2) (fun _ => thr _)
theorem tx_known {x1 x2 : Int32} (X : OK (p, l, e, R, s, m, args, below, meth, c, w) cX12_known 6 (some .int) "StruckWords" 7) (hst : l.stackTraces = false) (hT : TXs w s) (hnt : ∀ x ∈ c.exceptionTable.toList, False) (hRc : 1 ≤ R.cells) (hRs : 6 ≤ R.slots) (hbad : badK x1 x2 h) :
    JT (p, l, e, R, s, m, args, below, meth, c, w) 0 [(0, .inr (.inr 1)), (1, .inl x1), (2, .inl x2)] [] h (vx_MQ below QN (XCw w h) args s 1 6 (Aw w)) := by
  have thr : ∀ L, JT (p, l, e, R, s, m, args, below, meth, c, w) 16 L [] h (vx_MQ below QN (XCw w h) args s 1 6 (Aw w)) := fun L => T_throw X hst hT hT.1.2 hnt (by decide) hRc hRs dX12_known_16 dX12_known_19 dX12_known_20 dX12_known_22 dX12_known_25
  refine T_iload_n (pc := 0) X (j := 1) (i := 1) rfl rfl dX12_known_0 ?_
  rcases hbad with hc | ⟨hc, hy⟩
  · refine T_callS (pc := 1) (as := [.inl x1]) (st := []) (st2 := [.inl 0]) (r1 := (some (.inl 0), h)) (h2 := h) (ky := 1) X dX12_known_1 ca_X12_isMeaning cz_X12_isMeaning ml_12_131 (by decide) (m_X12_isMeaning _ _ _ hc) rfl rfl (Nat.le_of_ble_eq_true rfl) rfl rfl ?_
    exact T_if_eq (pc := 4) (tgt := 16) X dX12_known_4 rfl (fun _ => thr _) (fun z => absurd rfl z)
  · refine T_callS (pc := 1) (as := [.inl x1]) (st := []) (st2 := [.inl 1]) (r1 := (some (.inl 1), h)) (h2 := h) (ky := 1) X dX12_known_1 ca_X12_isMeaning cz_X12_isMeaning ml_12_131 (by decide) (m_X12_isMeaning _ _ _ hc) rfl rfl (Nat.le_of_ble_eq_true rfl) rfl rfl ?_
    refine T_if_eq (pc := 4) (tgt := 16) X dX12_known_4 rfl (fun z => absurd z (by decide)) (fun _ => ?_)
    refine T_iload_n (pc := 7) X (j := 2) (i := 2) rfl rfl dX12_known_7 ?_
    rcases hy with hy | ⟨hy, hy2⟩
    · exact T_if_lt (pc := 8) (tgt := 16) X dX12_known_8 rfl (fun _ => thr _) (fun z => absurd hy z)
    · refine T_if_lt (pc := 8) (tgt := 16) X dX12_known_8 rfl (fun z => absurd z hy) (fun _ => ?_)
      refine T_iload_n (pc := 11) X (j := 2) (i := 2) rfl rfl dX12_known_11 ?_
      refine T_iconst (pc := 12) X (v := 1) (by decide) dX12_known_12 ?_
      exact T_icmp_le (pc := 13) (tgt := 26) X dX12_known_13 rfl (fun z => absurd z hy2) (fun _ => thr _)
end TTH
def rmX : Room := { frames := 7, cells := 1, slots := 6, locals := 448 }
def PX (w : Wd) (h : Hp) : State → Prop := fun U => WS w h U ∧ TXs w U
theorem PX_blind {w : Wd} {h : Hp} {av : List Value} : FrameBlind (va_Pc av (PX w h)) := by
  intro a U g mk q
  obtain ⟨q0, qW, qT⟩ := q
  have b := WS_blind (w := w) (h := h) (av := av) a U g mk ⟨q0, qW⟩
  exact ⟨q0, b.2, TXs.warm (s := U) (U := U.calling g mk a) (State.WarmedH.refl U) (fun _ _ _ => rfl) qT⟩
/-- the contract of a method that throws -/
theorem XM_of {y : MethodName} {cy : ByteArray} {ny : Nat} {ry : Option FieldType} {as : List cv} {L0 : List (Nat × cv)} {h : Hp} {l : Launch} {w : Wd} (hy : plainName y.cls = true) (hL : ca 0 as = L0) (hlen : ctS as ≤ ny)
    (body : ∀ p e R s m args below meth c, OK (p, l, e, R, s, m, args, below, meth, c, w) cy ny ry y.cls 7 → TXs w s → (∀ x ∈ c.exceptionTable.toList, False) → 1 ≤ R.cells → 6 ≤ R.slots → JT (p, l, e, R, s, m, args, below, meth, c, w) 0 L0 [] h (vx_MQ below QN (XCw w h) args s 1 6 (Aw w))) :
    vx_Met l y (wsA y cy ny ry) rmX (va_Pc (as.map (tv w)) (PX w h)) QN (XCw w h) 1 6 (Aw w) := by
  refine vx_ofW (cc := cy) (maxL := ny) (ret := ry) (ws' := tbl) hy rfl ?_
  intro p e s m args below meth c s₁ B hml hnt hv
  obtain ⟨rfl, ⟨hP, hK, hw, hC, hN⟩, hT⟩ := hv
  have hts := atoms_spec (ws := wsA y cy ny ry) B.pre
  have X : OK (p, l, e, (headSpec (wsA y cy ny ry) rmX).room, s, m, (as.map (tv w)).toArray, below, meth, c, w) cy ny ry y.cls 7 := ⟨B.exec, B.bytes, hml, B.returns, findClass_of_methodNamed B.named, fun q hq => hts q (List.mem_cons_of_mem _ hq), B.notSynchronized, Nat.le_refl _, Nat.le_refl _, hw, hK, hC, hN⟩
  have hl := lv_entry (as.map (tv w)) (n := ny) (by rw [ca_len]; exact hlen)
  rw [lg_entry_eq]
  generalize (lg_sl (as.map (tv w)) ++ List.replicate (ny - (lg_sl (as.map (tv w))).length) Slot.unset).toArray = ls at hl ⊢
  rw [ca_map, hL, ← hml] at hl
  exact body _ _ _ _ _ _ _ _ _ X hT hnt (Nat.le_refl _) (Nat.le_refl _) s.heap [] ls hP va_S.rf hl
theorem xm_word {l : Launch} {w : Wd} {h : Hp} {x1 x2 : Int32} (hst : l.stackTraces = false) (hb : badW x1 x2 h) : vx_Met l yX12_word (wsA yX12_word cX12_word 4 (some .int)) rmX (va_Pc ([.inr (.inr 1), .inl x1, .inl x2].map (tv w)) (PX w h)) QN (XCw w h) 1 6 (Aw w) :=
  XM_of (L0 := [(0, .inr (.inr 1)), (1, .inl x1), (2, .inl x2)]) (by decide) rfl (Nat.le_of_ble_eq_true rfl) (fun _ _ _ _ _ _ _ _ _ X hT hnt r1 r2 => tx_word X hst hT hnt r1 r2 hb)
theorem xm_known {l : Launch} {w : Wd} {h : Hp} {x1 x2 : Int32} (hst : l.stackTraces = false) (hb : badK x1 x2 h) : vx_Met l yX12_known (wsA yX12_known cX12_known 6 (some .int)) rmX (va_Pc ([.inr (.inr 1), .inl x1, .inl x2].map (tv w)) (PX w h)) QN (XCw w h) 1 6 (Aw w) :=
  XM_of (L0 := [(0, .inr (.inr 1)), (1, .inl x1), (2, .inl x2)]) (by decide) rfl (Nat.le_of_ble_eq_true rfl) (fun _ _ _ _ _ _ _ _ _ X hT hnt r1 r2 => tx_known X hst hT hnt r1 r2 hb)
