/-! ===== the law: word, known, and its loop ===== -/
def kl (κ : KL) : Launch := κ.2.1
def kw (κ : KL) : Wd := κ.2.2.2.2.2.2.2.2.1
def OKT (κ : KL) : Prop := (kl κ).stackTraces = false ∧ TXs (kw κ) κ.2.2.2.1
/-- the wrapper's own words in the tables -/
def WY (idx : Nat) (y : MethodName) (cy : ByteArray) : Prop := Cond.codeWith y cy 5 (some .int) hhW ∈ tbl ∧ Cond.initialized y.cls ∈ tbl ∧ Cond.static y ∈ tbl ∧ Cond.methodLink "StruckWordsLaw" idx y ∈ tbl ∧ (y.cls ≠ "java/lang/invoke/MethodHandle" ∧ y.cls ≠ "java/lang/invoke/VarHandle" ∧ (parseMethodDescriptor y.desc).map (fun d => d.parameters.length) = some 4)
theorem wY_word : WY 41 yL_word cL_word := by decide +kernel
theorem wY_known : WY 113 yL_known cL_known := by decide +kernel
section LW
variable {κ : KL} {pc i : Nat} {L : List (Nat × cv)} {st : List cv} {h : Hp} {o : Int64}
theorem L_callW (X : OKL κ) (XT : OKT κ) {y : MethodName} {cy : ByteArray} {idx : Nat} {x1 x2 k : Int32} {o' : Int64} (hd : decode code pc = .ok (.invokestatic idx, 3)) (hY : WY idx y cy)
    (hc : (∀ r, 1 ≤ r → r ≤ 185 → (kw κ).2.2 r ≠ (kw κ).2.2 401) → vx_Met (kl κ) y (wsH y cy) rmW (va_Pc ([.inr (.inr 1), .inl x1, .inl x2, .inr (.inr 401)].map (tv (kw κ))) (PW (kw κ) h o)) (QW (kw κ) h k o') XNo 1 6 (AwO (kw κ)))
    (hct : ctS st ≤ 8) (hi5 : i ≤ 1000) (K : JL κ (pc + 3) L (.inl k :: st) h o' (i + 1)) : JL κ pc L (.inr (.inr 401) :: .inl x2 :: .inl x1 :: .inr (.inr 1) :: st) h o i := by
  obtain ⟨p, l, e, s, m, below, meth, c, w, b, Ln, xs⟩ := κ
  obtain ⟨hx, hb, hml, hr, hown, hts, hlk, hX, hbl, hw, hK, hC, hN, h4, had, hou⟩ := X
  obtain ⟨hst, hT⟩ := XT
  obtain ⟨y1, y2, y3, y4, y5⟩ := hY
  have hc := hc (fun r a1 a2 => (had r a1 a2).2)
  have hT : TXs w s := hT
  intro H locs ls hP hO hS hls
  have hcw : vx_CSW room_1 s #[Value.ref b] "StruckWordsLaw" idx y cy 5 (some .int) hhW (wsH y cy) rmW 1 6 4 := by
    refine vx_cwSW (Ts := tbl) (ws' := tbl) 4 hts ?_ rfl rfl rfl y5 ⟨by decide, by decide⟩
    intro q hq
    have hm : q ∈ tbl := by
      unfold va_wsS at hq
      rcases List.mem_append.mp hq with z | z
      · rcases List.mem_cons.mp z with rfl | z
        · exact y4
        · rcases List.mem_cons.mp z with rfl | z
          · exact y3
          · rcases List.mem_cons.mp z with rfl | z
            · exact y2
            · cases z
      · rcases List.mem_cons.mp z with rfl | z
        · exact y1
        · exact z
    exact ⟨hm, good_of_word (List.all_eq_true.mp tbl_good q hm)⟩
  have hr := vx_runSX (locs := locs) (cells := lwC i) (slots := lwS i) (meth := meth) (e := e) (below := below) (As := ([.inr (.inr 1), .inl x1, .inl x2, .inr (.inr 401)] : List cv).map (tv w)) (rest := st.map (tv w)) (g := F0 m pc ls ((.inr (.inr 401) :: .inl x2 :: .inl x1 :: .inr (.inr 1) :: st : List cv).map (tv w))) ⟨hx, hb, hml, hown, hts⟩ hc hcw
    ⟨PW_blind, fun U hU hW => ⟨rfl, ⟨L_WS had hP hS hK hw hC hN hU hW, TXs.warm hW (fun a a1 a2 => by rw [hU]; exact hS.2.1 a a1 (fun z => by unfold An at z; omega)) hT⟩, by rw [hU]; exact hO, fun r a1 a2 => (had r a1 a2).2⟩⟩ rfl rfl hls.1 rfl (by rw [ctS_ok]; show 2 * 0 + ctS st ≤ 8; omega) hd ⟨by show lwC i + 1 ≤ 601024; unfold lwC; omega, by show lwS i + 6 ≤ 7293034; unfold lwS; omega⟩
  intro T hT2 XX
  rcases hr T hT2 XX with ⟨v, st₀, t, T', L2, h0, X', hL, e1, e2, ⟨hv, hPt, hOt, hz, hk⟩, stp⟩ | ⟨q, st₀, t, T', L2, E, ce, h0, X', hL, e1, e2, hXC, hce, hcv, hcl, stp⟩
  · cases hv
    rw [h0] at hz hk
    have aw : ∀ q, AwO w q → An s q := fun q hq => by
      rcases hq with ⟨r, h1, h2, h3⟩ | h3
      · show s.heap.size ≤ q
        rw [h3]
        exact (had r h1 h2).1
      · show s.heap.size ≤ q
        rw [h3]
        exact hou
    obtain ⟨t2, a1, b1⟩ := K T'.heap (locs ++ L2) ls (by rw [e1]; exact hPt) (by rw [e1]; exact hOt) ⟨Nat.le_trans hS.1 (by rw [e1]; exact hz), fun q h1 h2 => by rw [e1, hk q (Nat.lt_of_lt_of_le h1 hS.1) (fun z => h2 (aw q z))]; exact hS.2.1 q h1 h2, fun q hq => by
      rcases List.mem_append.mp hq with h | h
      · exact hS.2.2 q h
      · exact aw _ (hL q h)⟩ hls T' rfl (stand_widen X' (by unfold lwC; omega) (by unfold lwS; omega))
    exact ⟨t2, stp t2 a1, b1⟩
  · exact hXC.elim
end LW
