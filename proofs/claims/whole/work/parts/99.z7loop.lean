/-! ===== the law: word, known, and its loop ===== -/
def kl (κ : KL) : Launch := κ.2.1
def kw (κ : KL) : Wd := κ.2.2.2.2.2.2.2.2.1
def OKT (κ : KL) : Prop := (kl κ).stackTraces = false ∧ TXs (kw κ) κ.2.2.2.1
/-- the wrapper's own words in the tables -/
def WY (idx : Nat) (y : MethodName) (cy : ByteArray) : Prop := Cond.codeWith y cy 5 (some .int) hhW ∈ tbl ∧ Cond.initialized y.cls ∈ tbl ∧ Cond.static y ∈ tbl ∧ Cond.methodLink "StruckWordsLaw" idx y ∈ tbl ∧ (y.cls ≠ "java/lang/invoke/MethodHandle" ∧ y.cls ≠ "java/lang/invoke/VarHandle" ∧ (parseMethodDescriptor y.desc).map (fun d => d.parameters.length) = some 4)
theorem wY_word : WY 41 yL_word cL_word := ⟨by decide +kernel, by decide +kernel, by decide +kernel, by decide +kernel, by decide +kernel⟩
theorem wY_known : WY 113 yL_known cL_known := ⟨by decide +kernel, by decide +kernel, by decide +kernel, by decide +kernel, by decide +kernel⟩
section LW
variable {κ : KL} {pc i : Nat} {L : List (Nat × cv)} {st : List cv} {h : Hp} {o : Int64}
theorem L_callW (X : OKL κ) (XT : OKT κ) {y : MethodName} {cy : ByteArray} {idx : Nat} {x1 x2 k : Int32} {o' : Int64} (hd : decode code pc = .ok (.invokestatic idx, 3)) (hY : WY idx y cy)
    (hc : (∀ r, 1 ≤ r → r ≤ 185 → (kw κ).2.2 r ≠ (kw κ).2.2 401) → vx_Met (kl κ) y (wsH y cy) rmW (va_Pc ([.inr (.inr 1), .inl x1, .inl x2, .inr (.inr 401)].map (tv (kw κ))) (PW (kw κ) h o)) (QW (kw κ) h k o') XNo 1 6 (AwO (kw κ)))
    (hct : ctS st ≤ 8) (hi5 : i ≤ 1000) (K : JL κ (pc + 3) L (.inl k :: st) h o' (i + 1)) : JL κ pc L (.inr (.inr 401) :: .inl x2 :: .inl x1 :: .inr (.inr 1) :: st) h o i := by
  obtain ⟨p, l, e, s, m, below, meth, c, w, b, Ln, xs⟩ := κ
  obtain ⟨hx, hb, hml, hr, hown, hts, hlk, hX, hbl, hw, hK, hC, hN, h4, had, hou⟩ := X
  obtain ⟨hst, hT⟩ := XT
  obtain ⟨y1, y2, y3, y4, y5⟩ := hY
  have hc := hc (fun r a1 a2 => (had r a1 a2).2)
  have hT : TXs w s := hT
  intro H locs ls hP hO hS hls
  have hcw : vx_CSW room_1 s #[Value.ref b] "StruckWordsLaw" idx y cy 5 (some .int) hhW (wsH y cy) rmW 1 6 4 := by
    refine vx_cwSW (Ts := tbl) (ws' := tbl) 4 hts ?_ rfl rfl rfl y5 ⟨by decide, by decide⟩
    intro q hq
    have hm : q ∈ tbl := by
      unfold va_wsS at hq
      rcases List.mem_append.mp hq with z | z
      · rcases List.mem_cons.mp z with rfl | z
        · exact y4
        · rcases List.mem_cons.mp z with rfl | z
          · exact y3
          · rcases List.mem_cons.mp z with rfl | z
            · exact y2
            · cases z
      · rcases List.mem_cons.mp z with rfl | z
        · exact y1
        · exact z
    exact ⟨hm, good_of_word (List.all_eq_true.mp tbl_good q hm)⟩
  have hr := vx_runSX (locs := locs) (cells := lwC i) (slots := lwS i) (meth := meth) (e := e) (below := below) (As := ([.inr (.inr 1), .inl x1, .inl x2, .inr (.inr 401)] : List cv).map (tv w)) (rest := st.map (tv w)) (g := F0 m pc ls ((.inr (.inr 401) :: .inl x2 :: .inl x1 :: .inr (.inr 1) :: st : List cv).map (tv w))) ⟨hx, hb, hml, hown, hts⟩ hc hcw
    ⟨PW_blind, fun U hU hW => ⟨rfl, ⟨L_WS had hP hS hK hw hC hN hU hW, TXs.warm hW (fun a a1 a2 => by rw [hU]; exact hS.2.1 a a1 (fun z => by unfold An at z; omega)) hT⟩, by rw [hU]; exact hO, fun r a1 a2 => (had r a1 a2).2⟩⟩ rfl rfl hls.1 rfl (by rw [ctS_ok]; show 2 * 0 + ctS st ≤ 8; omega) hd ⟨by show lwC i + 1 ≤ 601024; unfold lwC; omega, by show lwS i + 6 ≤ 7293034; unfold lwS; omega⟩
  intro T hT2 XX
  rcases hr T hT2 XX with ⟨v, st₀, t, T', L2, h0, X', hL, e1, e2, ⟨hv, hPt, hOt, hz, hk⟩, stp⟩ | ⟨q, st₀, t, T', L2, E, ce, h0, X', hL, e1, e2, hXC, hce, hcv, hcl, stp⟩
  · cases hv
    rw [h0] at hz hk
    have aw : ∀ q, AwO w q → An s q := fun q hq => by
      rcases hq with ⟨r, h1, h2, h3⟩ | h3
      · show s.heap.size ≤ q
        rw [h3]
        exact (had r h1 h2).1
      · show s.heap.size ≤ q
        rw [h3]
        exact hou
    obtain ⟨t2, a1, b1⟩ := K T'.heap (locs ++ L2) ls (by rw [e1]; exact hPt) (by rw [e1]; exact hOt) ⟨Nat.le_trans hS.1 (by rw [e1]; exact hz), fun q h1 h2 => by rw [e1, hk q (Nat.lt_of_lt_of_le h1 hS.1) (fun z => h2 (aw q z))]; exact hS.2.1 q h1 h2, fun q hq => by
      rcases List.mem_append.mp hq with h | h
      · exact hS.2.2 q h
      · exact aw _ (hL q h)⟩ hls T' rfl (stand_widen X' (by unfold lwC; omega) (by unfold lwS; omega))
    exact ⟨t2, stp t2 a1, b1⟩
  · exact hXC.elim
end LW

section LW2
variable {κ : KL} {pc i j : Nat} {L L' : List (Nat × cv)} {st : List cv} {h : Hp} {o : Int64}
theorem L_sub (ks : List Nat) (hL : ks.filterMap (fun k => L[k]?) = L') (K : JL κ pc L' st h o i) : JL κ pc L st h o i := by
  obtain ⟨p, l, e, s, m, below, meth, c, w, b, Ln, xs⟩ := κ
  intro H locs ls hP hO hS hl
  refine K H locs ls hP hO hS ⟨hl.1, hl.2.1, fun q hq => ?_⟩
  obtain ⟨q0, h0, rfl⟩ := List.mem_map.mp hq
  rw [← hL] at h0
  obtain ⟨k, -, hk⟩ := List.mem_filterMap.mp h0
  exact hl.2.2 _ (List.mem_map.mpr ⟨q0, List.mem_of_getElem? hk, rfl⟩)
theorem thr_e (h : Hp) : f_X13_thrown h = some (h.1 155 0, h) := rfl
theorem lc_word (X : OKL κ) (XT : OKT κ) (hi5 : i + 1 ≤ 1000) (hj : j + 6 ≤ kLn κ) (hL : kLn κ < 2147483648) (hI : Inv h) (K : ∀ h2 o2, Inv h2 → JL κ 1448 (LL j) [] h2 o2 (i + 1)) : JL κ 348 (LL j) [] h o i := by
  have tail : ∀ (k v : Int32) (o2 : Int64) (h2 : Hp), f_X13_word (kXs κ (j + 1)) (kXs κ (j + 2)) h = some (v, h2) → h2.1 155 0 = k → (k = 0 → o2 = v.toInt64) → Inv h2 → JL κ 365 (LL j) [.inl k] h o2 (i + 1) := by
    intro k v o2 h2 q2 hk ho hI2
    refine L_istore (pc := 365) X (L' := (5, .inl k) :: LL j) (by decide) rfl dL_law_365 ?_
    refine L_aload_n (pc := 367) X (k := 2) (j := 3) (k' := 2) (x := 155) (by decide) rfl rfl dL_law_367 ?_
    refine L_arg (pc := 368) X (j := j) (k := 1) (n := 1) (z := 1) (x := 0) rfl ⟨5, rfl⟩ rfl (by omega) hL dL_law_368 dL_law_369 dL_law_371 dL_law_372 dL_law_373 ?_
    refine L_arg (pc := 374) X (j := j) (k := 2) (n := 1) (z := 2) (x := 0) rfl ⟨5, rfl⟩ rfl (by omega) hL dL_law_374 dL_law_375 dL_law_377 dL_law_378 dL_law_379 ?_
    refine L_callV (pc := 380) (as := [.inl (kXs κ (j + 1)), .inl (kXs κ (j + 2))]) (st := []) (st2 := [.inl v]) (r1 := (some (.inl v), h2)) (h2 := h2) (ky := 3) X dL_law_380 ca_X13_word ci_X13_word cs_X13_word ml_L_46 (Nat.le_of_ble_eq_true rfl) ly155 rfl rfl (m_X13_word _ _ _ _ q2) rfl rfl (Nat.le_of_ble_eq_true rfl) rfl rfl ?_ hi5
    refine L_istore (pc := 383) X (L' := (6, .inl v) :: (5, .inl k) :: LL j) (by decide) rfl dL_law_383 ?_
    refine L_aload_n (pc := 385) X (k := 2) (j := 4) (k' := 2) (x := 155) (by decide) rfl rfl dL_law_385 ?_
    refine L_callV (pc := 386) (as := []) (st := []) (st2 := [.inl k]) (r1 := (some (.inl k), h2)) (h2 := h2) (ky := 1) X dL_law_386 ca_X13_thrown ci_X13_thrown cs_X13_thrown ml_L_47 (Nat.le_of_ble_eq_true rfl) ly155 rfl rfl (m_X13_thrown _ _ (by rw [thr_e, hk])) rfl rfl (Nat.le_of_ble_eq_true rfl) rfl rfl ?_ hi5
    refine L_iload (pc := 389) X (j := 1) rfl dL_law_389 ?_
    refine L_icmp_eq (pc := 391) (tgt := 396) X dL_law_391 rfl (fun _ => ?_) (fun z => absurd rfl z)
    refine L_iload (pc := 396) X (j := 1) rfl dL_law_396 ?_
    have fin : JL κ 413 ((6, .inl v) :: (5, .inl k) :: LL j) [] h2 o2 (i + 1) := L_goto (pc := 413) (tgt := 1448) X dL_law_413 rfl (L_sub [2, 3, 4, 5, 6] rfl (K h2 o2 hI2))
    refine L_if_ne (pc := 398) (tgt := 413) X dL_law_398 rfl (fun _ => fin) (fun z => ?_)
    refine L_aload_n (pc := 401) X (k := 3) (j := 3) (k' := 3) (x := 401) (by decide) rfl rfl dL_law_401 ?_
    refine L_iconst (pc := 402) X (v := 0) (by decide) dL_law_402 ?_
    refine L_oald (pc := 403) X dL_law_403 ?_
    refine L_iload (pc := 404) X (j := 0) rfl dL_law_404 ?_
    refine L_i2l (pc := 406) X dL_law_406 ?_
    refine L_lcmp (pc := 407) X dL_law_407 ?_
    exact L_if_eq (pc := 408) (tgt := 413) X dL_law_408 rfl (fun _ => fin) (fun z2 => absurd (by rw [ho z]; exact lcmp_self _) z2)
  refine L_aload_n (pc := 348) X (k := 1) (j := 3) (k' := 1) (x := 1) (by decide) rfl rfl dL_law_348 ?_
  refine L_arg (pc := 349) X (j := j) (k := 1) (n := 0) (z := 1) (x := 0) rfl ⟨4, rfl⟩ rfl (by omega) hL dL_law_349 dL_law_350 dL_law_352 dL_law_353 dL_law_354 ?_
  refine L_arg (pc := 355) X (j := j) (k := 2) (n := 0) (z := 2) (x := 0) rfl ⟨4, rfl⟩ rfl (by omega) hL dL_law_355 dL_law_356 dL_law_358 dL_law_359 dL_law_360 ?_
  refine L_aload_n (pc := 361) X (k := 3) (j := 1) (k' := 3) (x := 401) (by decide) rfl rfl dL_law_361 ?_
  rcases st_word (kXs κ (j + 1)) (kXs κ (j + 2)) hI with ⟨v, h2, q1, q2, q3, q4⟩ | ⟨hb, v, h2, q2, q3, q4⟩
  · exact L_callW (pc := 362) X XT dL_law_362 wY_word (fun hap => WM_good (by decide) rfl wD_word wC_word (ky := 2) (by decide) hap (m_X12_word _ _ _ _ q1 _ _)) (Nat.le_of_ble_eq_true rfl) (by omega) (tail 0 v v.toInt64 h2 q2 q3 (fun _ => rfl) q4)
  · exact L_callW (pc := 362) X XT dL_law_362 wY_word (fun hap => WM_bad (by decide) rfl wD_word wC_word hap (xm_word XT.1 hb)) (Nat.le_of_ble_eq_true rfl) (by omega) (tail 1 v o h2 q2 q3 (fun z => absurd z (by decide)) q4)
theorem lc_known (X : OKL κ) (XT : OKT κ) (hi5 : i + 1 ≤ 1000) (hj : j + 6 ≤ kLn κ) (hL : kLn κ < 2147483648) (hI : Inv h) (K : ∀ h2 o2, Inv h2 → JL κ 1448 (LL j) [] h2 o2 (i + 1)) : JL κ 816 (LL j) [] h o i := by
  have tail : ∀ (k v : Int32) (o2 : Int64) (h2 : Hp), f_X13_known (kXs κ (j + 1)) (kXs κ (j + 2)) h = some (v, h2) → h2.1 155 0 = k → (k = 0 → o2 = v.toInt64) → Inv h2 → JL κ 833 (LL j) [.inl k] h o2 (i + 1) := by
    intro k v o2 h2 q2 hk ho hI2
    refine L_istore (pc := 833) X (L' := (5, .inl k) :: LL j) (by decide) rfl dL_law_833 ?_
    refine L_aload_n (pc := 835) X (k := 2) (j := 3) (k' := 2) (x := 155) (by decide) rfl rfl dL_law_835 ?_
    refine L_arg (pc := 836) X (j := j) (k := 1) (n := 1) (z := 1) (x := 0) rfl ⟨5, rfl⟩ rfl (by omega) hL dL_law_836 dL_law_837 dL_law_839 dL_law_840 dL_law_841 ?_
    refine L_arg (pc := 842) X (j := j) (k := 2) (n := 1) (z := 2) (x := 0) rfl ⟨5, rfl⟩ rfl (by omega) hL dL_law_842 dL_law_843 dL_law_845 dL_law_846 dL_law_847 ?_
    refine L_callV (pc := 848) (as := [.inl (kXs κ (j + 1)), .inl (kXs κ (j + 2))]) (st := []) (st2 := [.inl v]) (r1 := (some (.inl v), h2)) (h2 := h2) (ky := 5) X dL_law_848 ca_X13_known ci_X13_known cs_X13_known ml_L_115 (Nat.le_of_ble_eq_true rfl) ly155 rfl rfl (m_X13_known _ _ _ _ q2) rfl rfl (Nat.le_of_ble_eq_true rfl) rfl rfl ?_ hi5
    refine L_istore (pc := 851) X (L' := (6, .inl v) :: (5, .inl k) :: LL j) (by decide) rfl dL_law_851 ?_
    refine L_aload_n (pc := 853) X (k := 2) (j := 4) (k' := 2) (x := 155) (by decide) rfl rfl dL_law_853 ?_
    refine L_callV (pc := 854) (as := []) (st := []) (st2 := [.inl k]) (r1 := (some (.inl k), h2)) (h2 := h2) (ky := 1) X dL_law_854 ca_X13_thrown ci_X13_thrown cs_X13_thrown ml_L_47 (Nat.le_of_ble_eq_true rfl) ly155 rfl rfl (m_X13_thrown _ _ (by rw [thr_e, hk])) rfl rfl (Nat.le_of_ble_eq_true rfl) rfl rfl ?_ hi5
    refine L_iload (pc := 857) X (j := 1) rfl dL_law_857 ?_
    refine L_icmp_eq (pc := 859) (tgt := 864) X dL_law_859 rfl (fun _ => ?_) (fun z => absurd rfl z)
    refine L_iload (pc := 864) X (j := 1) rfl dL_law_864 ?_
    have fin : JL κ 881 ((6, .inl v) :: (5, .inl k) :: LL j) [] h2 o2 (i + 1) := L_goto (pc := 881) (tgt := 1448) X dL_law_881 rfl (L_sub [2, 3, 4, 5, 6] rfl (K h2 o2 hI2))
    refine L_if_ne (pc := 866) (tgt := 881) X dL_law_866 rfl (fun _ => fin) (fun z => ?_)
    refine L_aload_n (pc := 869) X (k := 3) (j := 3) (k' := 3) (x := 401) (by decide) rfl rfl dL_law_869 ?_
    refine L_iconst (pc := 870) X (v := 0) (by decide) dL_law_870 ?_
    refine L_oald (pc := 871) X dL_law_871 ?_
    refine L_iload (pc := 872) X (j := 0) rfl dL_law_872 ?_
    refine L_i2l (pc := 874) X dL_law_874 ?_
    refine L_lcmp (pc := 875) X dL_law_875 ?_
    exact L_if_eq (pc := 876) (tgt := 881) X dL_law_876 rfl (fun _ => fin) (fun z2 => absurd (by rw [ho z]; exact lcmp_self _) z2)
  refine L_aload_n (pc := 816) X (k := 1) (j := 3) (k' := 1) (x := 1) (by decide) rfl rfl dL_law_816 ?_
  refine L_arg (pc := 817) X (j := j) (k := 1) (n := 0) (z := 1) (x := 0) rfl ⟨4, rfl⟩ rfl (by omega) hL dL_law_817 dL_law_818 dL_law_820 dL_law_821 dL_law_822 ?_
  refine L_arg (pc := 823) X (j := j) (k := 2) (n := 0) (z := 2) (x := 0) rfl ⟨4, rfl⟩ rfl (by omega) hL dL_law_823 dL_law_824 dL_law_826 dL_law_827 dL_law_828 ?_
  refine L_aload_n (pc := 829) X (k := 3) (j := 1) (k' := 3) (x := 401) (by decide) rfl rfl dL_law_829 ?_
  rcases st_known (kXs κ (j + 1)) (kXs κ (j + 2)) hI with ⟨v, h2, q1, q2, q3, q4⟩ | ⟨hb, v, h2, q2, q3, q4⟩
  · exact L_callW (pc := 830) X XT dL_law_830 wY_known (fun hap => WM_good (by decide) rfl wD_known wC_known (ky := 4) (by decide) hap (m_X12_known _ _ _ _ q1 _ _)) (Nat.le_of_ble_eq_true rfl) (by omega) (tail 0 v v.toInt64 h2 q2 q3 (fun _ => rfl) q4)
  · exact L_callW (pc := 830) X XT dL_law_830 wY_known (fun hap => WM_bad (by decide) rfl wD_known wC_known hap (xm_known XT.1 hb)) (Nat.le_of_ble_eq_true rfl) (by omega) (tail 1 v o h2 q2 q3 (fun z => absurd z (by decide)) q4)
theorem L_case (X : OKL κ) (XT : OKT κ) (hi5 : i + 1 ≤ 1000) (hj : j + 6 ≤ kLn κ) (hL : kLn κ < 2147483648) (hI : Inv h) (K : ∀ h2 o2, Inv h2 → JL κ 1448 (LL j) [] h2 o2 (i + 1)) (x : Int32) : JL κ 40 (LL j) [.inl x] h o i := by
  by_cases hz : x.toInt < 0 ∨ 41 < x.toInt
  · exact L_tsOut (pc := 40) (tgt := 1448) X dL_law_40 hz rfl (L_widen (K h o hI))
  · obtain ⟨t, ht⟩ : ∃ t : Nat, t = x.toInt.toNat := ⟨_, rfl⟩
    have hx : x.toInt = (t : Int) := by omega
    have K1 : ∀ h2, Inv h2 → JL κ 1448 (LL j) [] h2 o i := fun h2 hI2 => L_widen (K h2 o hI2)
    rcases (show t = 0 ∨ t = 1 ∨ t = 2 ∨ t = 3 ∨ t = 4 ∨ t = 5 ∨ t = 6 ∨ t = 7 ∨ t = 8 ∨ t = 9 ∨ t = 10 ∨ t = 11 ∨ t = 12 ∨ t = 13 ∨ t = 14 ∨ t = 15 ∨ t = 16 ∨ t = 17 ∨ t = 18 ∨ t = 19 ∨ t = 20 ∨ t = 21 ∨ t = 22 ∨ t = 23 ∨ t = 24 ∨ t = 25 ∨ t = 26 ∨ t = 27 ∨ t = 28 ∨ t = 29 ∨ t = 30 ∨ t = 31 ∨ t = 32 ∨ t = 33 ∨ t = 34 ∨ t = 35 ∨ t = 36 ∨ t = 37 ∨ t = 38 ∨ t = 39 ∨ t = 40 ∨ t = 41 by omega) with rfl | rfl | rfl | rfl | rfl | rfl | rfl | rfl | rfl | rfl | rfl | rfl | rfl | rfl | rfl | rfl | rfl | rfl | rfl | rfl | rfl | rfl | rfl | rfl | rfl | rfl | rfl | rfl | rfl | rfl | rfl | rfl | rfl | rfl | rfl | rfl | rfl | rfl | rfl | rfl | rfl | rfl
    · exact L_tsIn (pc := 40) (tgt := 224) X dL_law_40 0 hx (by decide) (by decide) rfl rfl (lc_feed X (by omega) hj hL hI K1)
    · exact L_tsIn (pc := 40) (tgt := 297) X dL_law_40 1 hx (by decide) (by decide) rfl rfl (lc_end X (by omega) hj hL hI K1)
    · exact L_tsIn (pc := 40) (tgt := 322) X dL_law_40 2 hx (by decide) (by decide) rfl rfl (lc_tongue X (by omega) hj hL hI K1)
    · exact L_tsIn (pc := 40) (tgt := 335) X dL_law_40 3 hx (by decide) (by decide) rfl rfl (lc_fault X (by omega) hj hL hI K1)
    · exact L_tsIn (pc := 40) (tgt := 348) X dL_law_40 4 hx (by decide) (by decide) rfl rfl (lc_word X XT hi5 hj hL hI K)
    · exact L_tsIn (pc := 40) (tgt := 416) X dL_law_40 5 hx (by decide) (by decide) rfl rfl (lc_becomes X (by omega) hj hL hI K1)
    · exact L_tsIn (pc := 40) (tgt := 465) X dL_law_40 6 hx (by decide) (by decide) rfl rfl (lc_text X (by omega) hj hL hI K1)
    · exact L_tsIn (pc := 40) (tgt := 478) X dL_law_40 7 hx (by decide) (by decide) rfl rfl (lc_lay X (by omega) hj hL hI K1)
    · exact L_tsIn (pc := 40) (tgt := 491) X dL_law_40 8 hx (by decide) (by decide) rfl rfl (lc_alike X (by omega) hj hL hI K1)
    · exact L_tsIn (pc := 40) (tgt := 516) X dL_law_40 9 hx (by decide) (by decide) rfl rfl (lc_drawn X (by omega) hj hL hI K1)
    · exact L_tsIn (pc := 40) (tgt := 553) X dL_law_40 10 hx (by decide) (by decide) rfl rfl (lc_left X (by omega) hj hL hI K1)
    · exact L_tsIn (pc := 40) (tgt := 578) X dL_law_40 11 hx (by decide) (by decide) rfl rfl (lc_leftAt X (by omega) hj hL hI K1)
    · exact L_tsIn (pc := 40) (tgt := 615) X dL_law_40 12 hx (by decide) (by decide) rfl rfl (lc_means X (by omega) hj hL hI K1)
    · exact L_tsIn (pc := 40) (tgt := 640) X dL_law_40 13 hx (by decide) (by decide) rfl rfl (lc_readings X (by omega) hj hL hI K1)
    · exact L_tsIn (pc := 40) (tgt := 666) X dL_law_40 14 hx (by decide) (by decide) rfl rfl (lc_sortAt X (by omega) hj hL hI K1)
    · exact L_tsIn (pc := 40) (tgt := 703) X dL_law_40 15 hx (by decide) (by decide) rfl rfl (lc_turns X (by omega) hj hL hI K1)
    · exact L_tsIn (pc := 40) (tgt := 716) X dL_law_40 16 hx (by decide) (by decide) rfl rfl (lc_against X (by omega) hj hL hI K1)
    · exact L_tsIn (pc := 40) (tgt := 741) X dL_law_40 17 hx (by decide) (by decide) rfl rfl (lc_twice X (by omega) hj hL hI K1)
    · exact L_tsIn (pc := 40) (tgt := 778) X dL_law_40 18 hx (by decide) (by decide) rfl rfl (lc_standIn X (by omega) hj hL hI K1)
    · exact L_tsIn (pc := 40) (tgt := 803) X dL_law_40 19 hx (by decide) (by decide) rfl rfl (lc_safe X (by omega) hj hL hI K1)
    · exact L_tsIn (pc := 40) (tgt := 816) X dL_law_40 20 hx (by decide) (by decide) rfl rfl (lc_known X XT hi5 hj hL hI K)
    · exact L_tsIn (pc := 40) (tgt := 884) X dL_law_40 21 hx (by decide) (by decide) rfl rfl (lc_scans X (by omega) hj hL hI K1)
    · exact L_tsIn (pc := 40) (tgt := 909) X dL_law_40 22 hx (by decide) (by decide) rfl rfl (lc_letters X (by omega) hj hL hI K1)
    · exact L_tsIn (pc := 40) (tgt := 935) X dL_law_40 23 hx (by decide) (by decide) rfl rfl (lc_find X (by omega) hj hL hI K1)
    · exact L_tsIn (pc := 40) (tgt := 960) X dL_law_40 24 hx (by decide) (by decide) rfl rfl (lc_cheapest X (by omega) hj hL hI K1)
    · exact L_tsIn (pc := 40) (tgt := 985) X dL_law_40 25 hx (by decide) (by decide) rfl rfl (lc_verse X (by omega) hj hL hI K1)
    · exact L_tsIn (pc := 40) (tgt := 1022) X dL_law_40 26 hx (by decide) (by decide) rfl rfl (lc_longer X (by omega) hj hL hI K1)
    · exact L_tsIn (pc := 40) (tgt := 1059) X dL_law_40 27 hx (by decide) (by decide) rfl rfl (lc_foundAt X (by omega) hj hL hI K1)
    · exact L_tsIn (pc := 40) (tgt := 1084) X dL_law_40 28 hx (by decide) (by decide) rfl rfl (lc_sayable X (by omega) hj hL hI K1)
    · exact L_tsIn (pc := 40) (tgt := 1109) X dL_law_40 29 hx (by decide) (by decide) rfl rfl (lc_link X (by omega) hj hL hI K1)
    · exact L_tsIn (pc := 40) (tgt := 1134) X dL_law_40 30 hx (by decide) (by decide) rfl rfl (lc_lend X (by omega) hj hL hI K1)
    · exact L_tsIn (pc := 40) (tgt := 1159) X dL_law_40 31 hx (by decide) (by decide) rfl rfl (lc_other X (by omega) hj hL hI K1)
    · exact L_tsIn (pc := 40) (tgt := 1220) X dL_law_40 32 hx (by decide) (by decide) rfl rfl (lc_mend X (by omega) hj hL hI K1)
    · exact L_tsIn (pc := 40) (tgt := 1233) X dL_law_40 33 hx (by decide) (by decide) rfl rfl (lc_torn X (by omega) hj hL hI K1)
    · exact L_tsIn (pc := 40) (tgt := 1271) X dL_law_40 34 hx (by decide) (by decide) rfl rfl (lc_sure X (by omega) hj hL hI K1)
    · exact L_tsIn (pc := 40) (tgt := 1296) X dL_law_40 35 hx (by decide) (by decide) rfl rfl (lc_likeliest X (by omega) hj hL hI K1)
    · exact L_tsIn (pc := 40) (tgt := 1310) X dL_law_40 36 hx (by decide) (by decide) rfl rfl (lc_add X (by omega) hj hL hI K1)
    · exact L_tsIn (pc := 40) (tgt := 1323) X dL_law_40 37 hx (by decide) (by decide) rfl rfl (lc_take X (by omega) hj hL hI K1)
    · exact L_tsIn (pc := 40) (tgt := 1348) X dL_law_40 38 hx (by decide) (by decide) rfl rfl (lc_book X (by omega) hj hL hI K1)
    · exact L_tsIn (pc := 40) (tgt := 1373) X dL_law_40 39 hx (by decide) (by decide) rfl rfl (lc_image X (by omega) hj hL hI K1)
    · exact L_tsIn (pc := 40) (tgt := 1398) X dL_law_40 40 hx (by decide) (by decide) rfl rfl (lc_restore X (by omega) hj hL hI K1)
    · exact L_tsIn (pc := 40) (tgt := 1423) X dL_law_40 41 hx (by decide) (by decide) rfl rfl (lc_count X (by omega) hj hL hI K1)
theorem len_lt {L j : Nat} (hL : L ≤ 3072) (hj : j ≤ 4000) (z : ¬ Int32.ofNat L - 6 < nI j) : j + 6 ≤ L := by
  apply Classical.byContradiction
  intro hn
  apply z
  by_cases h6 : 6 ≤ L
  · have e : Int32.ofNat L - 6 = nI (L - 6) := subN (a := L) (b := 6) (by omega)
    rw [e]
    exact of_eq_true (ltT (by omega) (by omega))
  · have key : ∀ k : Nat, k < 6 → (Int32.ofNat k - 6).toInt < 0 := by decide
    have h1 := key L (by omega)
    have h2 : (nI j).toInt = (j : Int) := nI_toInt (by omega)
    rw [Int32.lt_iff_toInt_lt, h2]
    omega
theorem L_loop (X : OKL κ) (XT : OKT κ) (hL3 : kLn κ ≤ 3072) : ∀ (n i : Nat) (h : Hp) (o : Int64), kLn κ ≤ 6 * i + 6 * n + 5 → 6 * i ≤ kLn κ + 6 → Inv h → JL κ 23 (LL (6 * i)) [] h o i := by
  intro n
  have hL : kLn κ < 2147483648 := by omega
  induction n with
  | zero =>
    intro i h o h1 h2 hI
    refine L_iload (pc := 23) X (j := 0) rfl dL_law_23 ?_
    refine L_aload_n (pc := 25) X (k := 0) (j := 4) (k' := 0) (x := 400) (by decide) rfl rfl dL_law_25 ?_
    refine L_slen (pc := 26) X dL_law_26 ?_
    refine L_bipush (pc := 27) X (v := 6) (by decide) dL_law_27 ?_
    refine L_isub (pc := 29) X dL_law_29 ?_
    refine L_icmp_gt (pc := 30) (tgt := 1454) X dL_law_30 rfl (fun _ => L_end (pc := 1454) X (by omega) dL_law_1454 dL_law_1455) (fun z => ?_)
    have := len_lt hL3 (by omega) z
    omega
  | succ n ih =>
    intro i h o h1 h2 hI
    refine L_iload (pc := 23) X (j := 0) rfl dL_law_23 ?_
    refine L_aload_n (pc := 25) X (k := 0) (j := 4) (k' := 0) (x := 400) (by decide) rfl rfl dL_law_25 ?_
    refine L_slen (pc := 26) X dL_law_26 ?_
    refine L_bipush (pc := 27) X (v := 6) (by decide) dL_law_27 ?_
    refine L_isub (pc := 29) X dL_law_29 ?_
    refine L_icmp_gt (pc := 30) (tgt := 1454) X dL_law_30 rfl (fun _ => L_end (pc := 1454) X (by omega) dL_law_1454 dL_law_1455) (fun z => ?_)
    have hj := len_lt hL3 (by omega) z
    refine L_aload_n (pc := 33) X (k := 0) (j := 4) (k' := 0) (x := 400) (by decide) rfl rfl dL_law_33 ?_
    refine L_iload (pc := 34) X (j := 0) rfl dL_law_34 ?_
    refine L_sld (pc := 36) X (k := 6 * i) rfl (by omega) hL dL_law_36 ?_
    refine L_bipush (pc := 37) X (v := 63) (by decide) dL_law_37 ?_
    refine L_iand (pc := 39) X dL_law_39 ?_
    refine L_case X XT (by omega) hj hL hI (fun h2 o2 hI2 => ?_) _
    refine L_iinc (pc := 1448) X (j := 0) (L' := LL (6 * (i + 1))) (v := 6) rfl (by decide) (by decide) ?_ dL_law_1448 ?_
    · show st1 (LL (6 * i)) 4 (.inl (nI (6 * i) + nI 6)) = LL (6 * (i + 1))
      rw [nI_add]
      rfl
    · exact L_goto (pc := 1451) (tgt := 23) X dL_law_1451 rfl (ih (i + 1) h2 o2 (by omega) (by omega) hI2)
end LW2
