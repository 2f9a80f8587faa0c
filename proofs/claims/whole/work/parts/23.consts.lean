/-! ===== constants: the words that a tongue is told with ===== -/
def isKn (x : Nat) : Bool := decide (300 ≤ x) && decide (x < 316)
theorem isKn_s {x : Nat} (h : isKn x = true) : 300 ≤ x ∧ x < 316 := by
  simp only [isKn, Bool.and_eq_true, decide_eq_true_eq] at h
  exact h
theorem isKn_kw {x : Nat} (h : isKn x = true) : isKw x = true := by
  have := isKn_s h
  simp [isKw, this]
section J3
variable {κ : Kx} {cc : ByteArray} {nL : Nat} {ret : Option FieldType} {own : String} {lv pc : Nat} {L L' : List (Nat × cv)} {st : List cv} {h : Hp} {r : Option cv × Hp}
theorem J_null (X : OK κ cc nL ret own lv) (hd : decode cc pc = .ok (.aconst_null, 1)) (K : J κ (pc + 1) L (.inr (.inr 0) :: st) h r) : J κ pc L st h r := by
  obtain ⟨p, l, e, R, s, m, args, below, meth, c, w⟩ := κ
  obtain ⟨hx, hb, hml, hr, hown, hts, hlk, hfr, hlo, hw, hK, hC, hN⟩ := X
  intro H locs ls hP hS hl
  exact lv_null hx hb hd (K H locs ls hP hS hl)
theorem J_getALL (X : OK κ cc nL ret own lv) {idx : Nat} (hf : Cond.fieldLink own idx "StruckWords$Keyword" "ALL" "[LStruckWords$Keyword;" ∈ tbl) (hd : decode cc pc = .ok (.getstatic idx, 3)) (K : J κ (pc + 3) L (.inr (.inr 320) :: st) h r) : J κ pc L st h r := by
  obtain ⟨p, l, e, R, s, m, args, below, meth, c, w⟩ := κ
  obtain ⟨hx, hb, hml, hr, hown, hts, hlk, hfr, hlo, hw, hK, hC, hN⟩ := X
  intro H locs ls hP hS hl
  exact va_gets hx hb hC.2.1 hS hown (hts _ hf) (fun _ q => q) hd (K H locs ls hP hS hl)
theorem J_getSWM (X : OK κ cc nL ret own lv) {idx : Nat} (hf : Cond.fieldLink own idx "StruckWords$1" "$SwitchMap$StruckWords$Keyword" "[I" ∈ tbl) (hd : decode cc pc = .ok (.getstatic idx, 3)) (K : J κ (pc + 3) L (.inr (.inr 321) :: st) h r) : J κ pc L st h r := by
  obtain ⟨p, l, e, R, s, m, args, below, meth, c, w⟩ := κ
  obtain ⟨hx, hb, hml, hr, hown, hts, hlk, hfr, hlo, hw, hK, hC, hN⟩ := X
  intro H locs ls hP hS hl
  exact va_gets hx hb hC.2.2.2.1 hS hown (hts _ hf) (fun _ q => q) hd (K H locs ls hP hS hl)
theorem J_alenT (X : OK κ cc nL ret own lv) (hd : decode cc pc = .ok (.arraylength, 1)) (K : J κ (pc + 1) L (.inl 16 :: st) h r) : J κ pc L (.inr (.inr 320) :: st) h r := by
  obtain ⟨p, l, e, R, s, m, args, below, meth, c, w⟩ := κ
  obtain ⟨hx, hb, hml, hr, hown, hts, hlk, hfr, hlo, hw, hK, hC, hN⟩ := X
  intro H locs ls hP hS hl
  exact va_tlen hx hb hC.2.2.1 hS (v := 16) (by decide) hd (K H locs ls hP hS hl)
theorem J_aaloadT (X : OK κ cc nL ret own lv) {i : Int32} (hi : inb i 16 = true) (hd : decode cc pc = .ok (.aaload, 1)) (K : J κ (pc + 1) L (.inr (.inr (300 + i.toNatClampNeg)) :: st) h r) : J κ pc L (.inl i :: .inr (.inr 320) :: st) h r := by
  obtain ⟨p, l, e, R, s, m, args, below, meth, c, w⟩ := κ
  obtain ⟨hx, hb, hml, hr, hown, hts, hlk, hfr, hlo, hw, hK, hC, hN⟩ := X
  intro H locs ls hP hS hl
  have K := K H locs ls hP hS hl
  rw [List.map_cons, tv_ref (by omega)] at K
  exact vb_tq hx hb hC.2.2.1 hS (inb_in hi) rfl hd K
theorem J_ialoadT (X : OK κ cc nL ret own lv) {i : Int32} (hi : inb i 16 = true) (hd : decode cc pc = .ok (.iaload, 1)) (K : J κ (pc + 1) L (.inl (swT.getD i.toNatClampNeg 0) :: st) h r) : J κ pc L (.inl i :: .inr (.inr 321) :: st) h r := by
  obtain ⟨p, l, e, R, s, m, args, below, meth, c, w⟩ := κ
  obtain ⟨hx, hb, hml, hr, hown, hts, hlk, hfr, hlo, hw, hK, hC, hN⟩ := X
  intro H locs ls hP hS hl
  exact va_ti hx hb hC.2.2.2.2 hS (inb_in hi) rfl hd (K H locs ls hP hS hl)
theorem J_getKc (X : OK κ cc nL ret own lv) {x idx : Nat} (hx0 : isKn x = true) (hf : Cond.fieldLink own idx "StruckWords$Keyword" "code" "I" ∈ tbl) (hd : decode cc pc = .ok (.getfield idx, 3)) (K : J κ (pc + 3) L (.inl (kwC.getD (x - 300) 0) :: st) h r) : J κ pc L (.inr (.inr x) :: st) h r := by
  obtain ⟨p, l, e, R, s, m, args, below, meth, c, w⟩ := κ
  obtain ⟨hx, hb, hml, hr, hown, hts, hlk, hfr, hlo, hw, hK, hC, hN⟩ := X
  intro H locs ls hP hS hl
  obtain ⟨a1, a2⟩ := isKn_s hx0
  rw [List.map_cons, tv_ref (by omega), show w.2.2 x = (fun i => w.2.2 (300 + i)) (x - 300) by show _ = w.2.2 (300 + (x - 300)); rw [show 300 + (x - 300) = x by omega]]
  exact va_getE (ad := fun i => w.2.2 (300 + i)) (i := x - 300) hx hb hC.1 (by show x - 300 < 16; omega) hS hown (q := ("StruckWords$Keyword", "code", "I", kwC)) (List.mem_cons_self) (hts _ hf) (fun _ q => q) hd (K H locs ls hP hS hl)
theorem J_getOrd (X : OK κ cc nL ret own lv) {x idx : Nat} (hx0 : isKn x = true) (hf : Cond.fieldLink own idx "java/lang/Enum" "ordinal" "I" ∈ tbl) (hd : decode cc pc = .ok (.getfield idx, 3)) (K : J κ (pc + 3) L (.inl (Int32.ofNat (x - 300)) :: st) h r) : J κ pc L (.inr (.inr x) :: st) h r := by
  obtain ⟨p, l, e, R, s, m, args, below, meth, c, w⟩ := κ
  obtain ⟨hx, hb, hml, hr, hown, hts, hlk, hfr, hlo, hw, hK, hC, hN⟩ := X
  intro H locs ls hP hS hl
  obtain ⟨a1, a2⟩ := isKn_s hx0
  have K := K H locs ls hP hS hl
  have e0 : Int32.ofNat (x - 300) = ([0, 1, 2, 3, 4, 5, 6, 7, 8, 9, 10, 11, 12, 13, 14, 15] : List Int32).getD (x - 300) 0 := by
    have key : ∀ i : Fin 16, Int32.ofNat i.1 = ([0, 1, 2, 3, 4, 5, 6, 7, 8, 9, 10, 11, 12, 13, 14, 15] : List Int32).getD i.1 0 := by decide
    exact key ⟨x - 300, by omega⟩
  rw [e0] at K
  rw [List.map_cons, tv_ref (by omega), show w.2.2 x = (fun i => w.2.2 (300 + i)) (x - 300) by show _ = w.2.2 (300 + (x - 300)); rw [show 300 + (x - 300) = x by omega]]
  exact va_getE (ad := fun i => w.2.2 (300 + i)) (i := x - 300) hx hb hC.1 (by show x - 300 < 16; omega) hS hown (q := ("java/lang/Enum", "ordinal", "I", [0, 1, 2, 3, 4, 5, 6, 7, 8, 9, 10, 11, 12, 13, 14, 15])) (List.mem_cons_of_mem _ List.mem_cons_self) (hts _ hf) (fun _ q => q) hd K
def yOrd : MethodName := yJx29ce0_ordinal_8abf5
theorem w_ord : Cond.fieldLink "java/lang/Enum" 7 "java/lang/Enum" "ordinal" "I" ∈ tbl ∧ Cond.code yJx29ce0_ordinal_8abf5 cJx29ce0_ordinal_8abf5 1 (some .int) ∈ tbl ∧ Cond.initialized "java/lang/Enum" ∈ tbl ∧ Cond.sameMethod "StruckWords$Keyword" "java/lang/Enum" "ordinal" "()I" ∈ tbl ∧ Cond.selects "StruckWords$Keyword" ⟨"StruckWords$Keyword", "ordinal", "()I"⟩ yJx29ce0_ordinal_8abf5 ∈ tbl ∧ Cond.instanceMethod yJx29ce0_ordinal_8abf5 ∈ tbl := by decide +kernel
theorem m_ord (x : Nat) (h : Hp) (hx : isKn x = true) : ∀ l w, CT l w yJx29ce0_ordinal_8abf5 cJx29ce0_ordinal_8abf5 1 (some .int) 1 [.inr (.inr x)] h (some (.inl (Int32.ofNat (x - 300))), h) := by
  refine CT_of (L0 := [(0, .inr (.inr x))]) (by decide) rfl (Nat.le_of_ble_eq_true rfl) (fun κ X => ?_)
  refine J_aload_n (pc := 0) X (j := 0) (i := 0) rfl rfl dJx29ce0_ordinal_8abf5_0 ?_
  refine J_getOrd (pc := 1) X hx w_ord.1 dJx29ce0_ordinal_8abf5_1 ?_
  exact J_iret (pc := 4) X dJx29ce0_ordinal_8abf5_4
theorem J_ordinal (X : OK κ cc nL ret own (lv + 2)) {idx x : Nat} (hx0 : isKn x = true) (hm : Cond.methodLink own idx ⟨"StruckWords$Keyword", "ordinal", "()I"⟩ ∈ tbl) (hd : decode cc pc = .ok (.invokevirtual idx, 3)) (hct : ctS st ≤ 8) (K : J κ (pc + 3) L (.inl (Int32.ofNat (x - 300)) :: st) h r) : J κ pc L (.inr (.inr x) :: st) h r := by
  obtain ⟨p, l, e, R, s, m, args, below, meth, c, w⟩ := κ
  obtain ⟨hx, hb, hml, hr, hown, hts, hlk, hfr, hlo, hw, hK, hC, hN⟩ := X
  intro H locs ls hP hS hls
  obtain ⟨a1, a2⟩ := isKn_s hx0
  have e0 : tv w (.inr (.inr x)) = .ref (w.2.2 x) := tv_ref (by omega)
  have hrc := va_recvE hC.1 (i := x - 300) (by show x - 300 < 16; omega) hS
  rw [show 300 + (x - 300) = x by omega] at hrc
  have hG : GoodIn tbl (va_wsU own idx "StruckWords$Keyword" "java/lang/Enum" ⟨"StruckWords$Keyword", "ordinal", "()I"⟩ yJx29ce0_ordinal_8abf5 (wsA yJx29ce0_ordinal_8abf5 cJx29ce0_ordinal_8abf5 1 (some .int))) := by
    intro q hq
    have hq2 : q ∈ tbl := by
      rcases List.mem_append.mp hq with hq | hq
      · simp only [List.mem_cons, List.not_mem_nil, or_false] at hq
        rcases hq with rfl | rfl | rfl | rfl | rfl
        · exact hm
        · exact w_ord.2.2.2.1
        · exact w_ord.2.2.2.2.1
        · exact w_ord.2.2.2.2.2
        · exact w_ord.2.2.1
      · rcases List.mem_cons.mp hq with hq | hq
        · rw [hq]; exact w_ord.2.1
        · exact hq
    exact ⟨hq2, good_of_word (List.all_eq_true.mp tbl_good q hq2)⟩
  have cu := va_cwU (own := own) (C := "StruckWords$Keyword") (owner := "java/lang/Enum") (index := idx) (maxL := 1) (mc := 0) (ms := 0) (x := ⟨"StruckWords$Keyword", "ordinal", "()I"⟩) (y := yJx29ce0_ordinal_8abf5) (bytes := cJx29ce0_ordinal_8abf5) (ret := some .int) (R := R) (rm := rmk 1) (ws' := tbl) 0 hts hG rfl rfl rfl rfl (by decide) ⟨by show 1 + 1 ≤ R.frames; omega, by show 8 + (1 + 11) + 64 * 1 ≤ R.locals; omega⟩
  have hr := va_runU (locs := locs) (cells := 0) (slots := 0) (meth := meth) (e := e) (below := below) (b := w.2.2 x) (As := []) (rest := st.map (tv w)) (g := F0 m pc ls ((.inr (.inr x) :: st).map (tv w))) ⟨hx, hb, hml, hown, hts⟩ (m_ord x h hx0 l w) cu
    ⟨WS_blind, hrc, fun U hU hW => ⟨by rw [List.map_cons, e0]; rfl, WS_end hP hS hK hw hC hN hU hW⟩⟩ rfl rfl (hls.1.trans hml) (by rw [List.map_cons, e0]; rfl) (by rw [ctS_ok]; show 2 * 0 + ctS st ≤ 8; omega) hd ⟨Nat.zero_le _, Nat.zero_le _⟩
  exact J_run hr hS hls K
end J3
theorem inb_s {i : Int32} {n : Nat} (h : inb i n = true) : i.toNatClampNeg < n := inb_lt h
theorem kn_of {i : Int32} (h : inb i 16 = true) : isKn (300 + i.toNatClampNeg) = true := by
  have := inb_lt h
  simp only [isKn, Bool.and_eq_true, decide_eq_true_eq]
  omega
