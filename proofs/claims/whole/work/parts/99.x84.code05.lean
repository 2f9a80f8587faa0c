theorem tF_X8_sumWhatIsAhead_30 {κ : Kx} (X : OK κ cX8_sumWhatIsAhead 4 (none) "StruckWords$Tear" 2) (x1 : Int32) (x2 : Int32) (k79 : Hp → Option Hp) (self : Int32 → Hp → Option Hp) (x3 : Int32) (h : Hp) (q : Hp) (hk79 : ∀ (h : Hp) (q : Hp), k79 h = some q → J κ 79 [(0, .inr (.inr 133)), (1, .inl x1), (2, .inl x2)] [] h (none, q)) (hself : ∀ (x3 : Int32) (h : Hp) (q : Hp), self x3 h = some q → J κ 30 [(0, .inr (.inr 133)), (1, .inl x1), (2, .inl x2), (3, .inl x3)] [] h (none, q)) (hq : F_X8_sumWhatIsAhead_30 x1 x2 k79 self x3 h = some q) : J κ 30 [(0, .inr (.inr 133)), (1, .inl x1), (2, .inl x2), (3, .inl x3)] [] h (none, q) := by
  delta F_X8_sumWhatIsAhead_30 at hq
  refine J_iload_n (pc := 30) X (j := 3) (i := 3) rfl rfl dX8_sumWhatIsAhead_30 ?_
  refine J_bipush (pc := 31) X (v := 8) (by decide) dX8_sumWhatIsAhead_31 ?_
  refine J_icmp_ge (pc := 33) (tgt := 79) X dX8_sumWhatIsAhead_33 rfl (fun c6 => ?_) (fun c6 => ?_)
  · have hq := ite_t hq c6
    refine J_sub [0, 1, 2] rfl ?_
    exact hk79 _ _ hq
  · have hq := ite_f hq c6
    refine J_aload_n (pc := 36) X (j := 0) (i := 0) rfl rfl dX8_sumWhatIsAhead_36 ?_
    refine J_getR (pc := 37) X ly133 fl_8_38 dX8_sumWhatIsAhead_37 ?_
    refine J_ltR hq (fun r7 hq => ?_)
    obtain ⟨g8, hq⟩ := gd hq
    refine J_iload_n (pc := 40) X (j := 2) (i := 2) rfl rfl dX8_sumWhatIsAhead_40 ?_
    refine J_iload_n (pc := 41) X (j := 1) (i := 1) rfl rfl dX8_sumWhatIsAhead_41 ?_
    obtain ⟨v10, h9, hc, hq⟩ := bnd_e hq
    refine J_callV (pc := 42) (as := [.inl x2, .inl x1]) (st := []) (st2 := [.inl v10]) (r1 := (some (.inl v10), h9)) (h2 := h9) (ky := 1) X dX8_sumWhatIsAhead_42 ca_X10_mayFollow ci_X10_mayFollow cs_X10_mayFollow ml_8_115 (by decide) (isO_lay g8) rfl rfl (m_X10_mayFollow _ _ _ _ _ (isO_lay g8) hc) rfl rfl (Nat.le_of_ble_eq_true rfl) rfl rfl ?_
    refine J_if_eq (pc := 45) (tgt := 79) X dX8_sumWhatIsAhead_45 rfl (fun c11 => ?_) (fun c11 => ?_)
    · have hq := ite_t hq c11
      refine J_sub [0, 1, 2] rfl ?_
      exact hk79 _ _ hq
    · have hq := ite_f hq c11
      refine J_aload_n (pc := 48) X (j := 0) (i := 0) rfl rfl dX8_sumWhatIsAhead_48 ?_
      refine J_getF (pc := 49) X (b := 138) ly133 fl_8_28 rfl dX8_sumWhatIsAhead_49 ?_
      refine J_iload_n (pc := 52) X (j := 1) (i := 1) rfl rfl dX8_sumWhatIsAhead_52 ?_
      refine J_bipush (pc := 53) X (v := 8) (by decide) dX8_sumWhatIsAhead_53 ?_
      refine J_imul (pc := 55) X dX8_sumWhatIsAhead_55 ?_
      refine J_iload_n (pc := 56) X (j := 3) (i := 3) rfl rfl dX8_sumWhatIsAhead_56 ?_
      refine J_iadd (pc := 57) X dX8_sumWhatIsAhead_57 ?_
      refine J_dup2 (pc := 58) X rfl rfl dX8_sumWhatIsAhead_58 ?_
      obtain ⟨g12, hq⟩ := gd hq
      refine J_laload (pc := 59) X ly138 g12 dX8_sumWhatIsAhead_59 ?_
      refine J_aload_n (pc := 60) X (j := 0) (i := 0) rfl rfl dX8_sumWhatIsAhead_60 ?_
      refine J_getF (pc := 61) X (b := 137) ly133 fl_8_24 rfl dX8_sumWhatIsAhead_61 ?_
      refine J_iload_n (pc := 64) X (j := 2) (i := 2) rfl rfl dX8_sumWhatIsAhead_64 ?_
      refine J_bipush (pc := 65) X (v := 8) (by decide) dX8_sumWhatIsAhead_65 ?_
      refine J_imul (pc := 67) X dX8_sumWhatIsAhead_67 ?_
      refine J_iload_n (pc := 68) X (j := 3) (i := 3) rfl rfl dX8_sumWhatIsAhead_68 ?_
      refine J_iadd (pc := 69) X dX8_sumWhatIsAhead_69 ?_
      obtain ⟨g13, hq⟩ := gd hq
      refine J_laload (pc := 70) X ly137 g13 dX8_sumWhatIsAhead_70 ?_
      refine J_ladd (pc := 71) X dX8_sumWhatIsAhead_71 ?_
      obtain ⟨g14, hq⟩ := gd hq
      refine J_lastore (pc := 72) X ly138 g14 dX8_sumWhatIsAhead_72 ?_
      refine J_ltH hq (fun h15 hq => ?_)
      refine J_iinc (pc := 73) X (j := 3) (v := 1) (L' := [(3, .inl (x3 + 1)), (0, .inr (.inr 133)), (1, .inl x1), (2, .inl x2)]) rfl (by decide) (by decide) rfl dX8_sumWhatIsAhead_73 ?_
      refine J_goto (pc := 76) X (tgt := 30) dX8_sumWhatIsAhead_76 rfl ?_
      refine J_sub [1, 2, 3, 0] rfl ?_
      exact hself _ _ _ hq
theorem tL_X8_sumWhatIsAhead_30 {κ : Kx} (X : OK κ cX8_sumWhatIsAhead 4 (none) "StruckWords$Tear" 2) (x1 : Int32) (x2 : Int32) (k79 : Hp → Option Hp) (N : Nat) (x3 : Int32) (h : Hp) (q : Hp) (hk79 : ∀ (h : Hp) (q : Hp), k79 h = some q → J κ 79 [(0, .inr (.inr 133)), (1, .inl x1), (2, .inl x2)] [] h (none, q)) (hq : itr2 (F_X8_sumWhatIsAhead_30 x1 x2 k79) N x3 h = some q) : J κ 30 [(0, .inr (.inr 133)), (1, .inl x1), (2, .inl x2), (3, .inl x3)] [] h (none, q) :=
  itr2_ind (fun self hs x3 h q hq => tF_X8_sumWhatIsAhead_30 X x1 x2 k79 self x3 h q hk79 hs hq) N x3 h q hq
theorem tF_X8_sumWhatIsAhead_23 {κ : Kx} (X : OK κ cX8_sumWhatIsAhead 4 (none) "StruckWords$Tear" 2) (x1 : Int32) (k85 : Hp → Option Hp) (self : Int32 → Hp → Option Hp) (x2 : Int32) (h : Hp) (q : Hp) (hk85 : ∀ (h : Hp) (q : Hp), k85 h = some q → J κ 85 [(0, .inr (.inr 133)), (1, .inl x1)] [] h (none, q)) (hself : ∀ (x2 : Int32) (h : Hp) (q : Hp), self x2 h = some q → J κ 23 [(0, .inr (.inr 133)), (1, .inl x1), (2, .inl x2)] [] h (none, q)) (hq : F_X8_sumWhatIsAhead_23 x1 k85 self x2 h = some q) : J κ 23 [(0, .inr (.inr 133)), (1, .inl x1), (2, .inl x2)] [] h (none, q) := by
  delta F_X8_sumWhatIsAhead_23 at hq
  refine J_iload_n (pc := 23) X (j := 2) (i := 2) rfl rfl dX8_sumWhatIsAhead_23 ?_
  refine J_iconst (pc := 24) X (v := 5) (by decide) dX8_sumWhatIsAhead_24 ?_
  refine J_icmp_gt (pc := 25) (tgt := 85) X dX8_sumWhatIsAhead_25 rfl (fun c5 => ?_) (fun c5 => ?_)
  · have hq := ite_t hq c5
    refine J_sub [0, 1] rfl ?_
    exact hk85 _ _ hq
  · have hq := ite_f hq c5
    refine J_iconst (pc := 28) X (v := 0) (by decide) dX8_sumWhatIsAhead_28 ?_
    refine J_istore_n (pc := 29) X (L' := [(3, .inl 0), (0, .inr (.inr 133)), (1, .inl x1), (2, .inl x2)]) (i := 3) rfl (by decide) rfl dX8_sumWhatIsAhead_29 ?_
    refine J_sub [1, 2, 3, 0] rfl ?_
    refine tL_X8_sumWhatIsAhead_30 X _ _ _ N0 _ _ _ ?_ hq
    · intro h16 q hq
      refine J_iinc (pc := 79) X (j := 2) (v := 1) (L' := [(2, .inl (x2 + 1)), (0, .inr (.inr 133)), (1, .inl x1)]) rfl (by decide) (by decide) rfl dX8_sumWhatIsAhead_79 ?_
      refine J_goto (pc := 82) X (tgt := 23) dX8_sumWhatIsAhead_82 rfl ?_
      refine J_sub [1, 2, 0] rfl ?_
      exact hself _ _ _ hq
theorem tL_X8_sumWhatIsAhead_23 {κ : Kx} (X : OK κ cX8_sumWhatIsAhead 4 (none) "StruckWords$Tear" 2) (x1 : Int32) (k85 : Hp → Option Hp) (N : Nat) (x2 : Int32) (h : Hp) (q : Hp) (hk85 : ∀ (h : Hp) (q : Hp), k85 h = some q → J κ 85 [(0, .inr (.inr 133)), (1, .inl x1)] [] h (none, q)) (hq : itr2 (F_X8_sumWhatIsAhead_23 x1 k85) N x2 h = some q) : J κ 23 [(0, .inr (.inr 133)), (1, .inl x1), (2, .inl x2)] [] h (none, q) :=
  itr2_ind (fun self hs x2 h q hq => tF_X8_sumWhatIsAhead_23 X x1 k85 self x2 h q hk85 hs hq) N x2 h q hq
theorem tF_X8_sumWhatIsAhead_10 {κ : Kx} (X : OK κ cX8_sumWhatIsAhead 4 (none) "StruckWords$Tear" 2) (k91 : Hp → Option Hp) (self : Int32 → Hp → Option Hp) (x1 : Int32) (h : Hp) (q : Hp) (hk91 : ∀ (h : Hp) (q : Hp), k91 h = some q → J κ 91 [] [] h (none, q)) (hself : ∀ (x1 : Int32) (h : Hp) (q : Hp), self x1 h = some q → J κ 10 [(0, .inr (.inr 133)), (1, .inl x1)] [] h (none, q)) (hq : F_X8_sumWhatIsAhead_10 k91 self x1 h = some q) : J κ 10 [(0, .inr (.inr 133)), (1, .inl x1)] [] h (none, q) := by
  delta F_X8_sumWhatIsAhead_10 at hq
  refine J_iload_n (pc := 10) X (j := 1) (i := 1) rfl rfl dX8_sumWhatIsAhead_10 ?_
  refine J_aload_n (pc := 11) X (j := 0) (i := 0) rfl rfl dX8_sumWhatIsAhead_11 ?_
  refine J_getR (pc := 12) X ly133 fl_8_38 dX8_sumWhatIsAhead_12 ?_
  refine J_ltR hq (fun r2 hq => ?_)
  obtain ⟨g3, hq⟩ := gd hq
  refine J_getI (pc := 15) X (isO_lay g3) fl_8_112 dX8_sumWhatIsAhead_15 ?_
  refine J_icmp_ge (pc := 18) (tgt := 91) X dX8_sumWhatIsAhead_18 rfl (fun c4 => ?_) (fun c4 => ?_)
  · have hq := ite_t hq c4
    refine J_sub [] rfl ?_
    exact hk91 _ _ hq
  · have hq := ite_f hq c4
    refine J_iconst (pc := 21) X (v := 0) (by decide) dX8_sumWhatIsAhead_21 ?_
    refine J_istore_n (pc := 22) X (L' := [(2, .inl 0), (0, .inr (.inr 133)), (1, .inl x1)]) (i := 2) rfl (by decide) rfl dX8_sumWhatIsAhead_22 ?_
    refine J_sub [1, 2, 0] rfl ?_
    refine tL_X8_sumWhatIsAhead_23 X _ _ N0 _ _ _ ?_ hq
    · intro h17 q hq
      refine J_iinc (pc := 85) X (j := 1) (v := 1) (L' := [(1, .inl (x1 + 1)), (0, .inr (.inr 133))]) rfl (by decide) (by decide) rfl dX8_sumWhatIsAhead_85 ?_
      refine J_goto (pc := 88) X (tgt := 10) dX8_sumWhatIsAhead_88 rfl ?_
      refine J_sub [1, 0] rfl ?_
      exact hself _ _ _ hq
theorem tL_X8_sumWhatIsAhead_10 {κ : Kx} (X : OK κ cX8_sumWhatIsAhead 4 (none) "StruckWords$Tear" 2) (k91 : Hp → Option Hp) (N : Nat) (x1 : Int32) (h : Hp) (q : Hp) (hk91 : ∀ (h : Hp) (q : Hp), k91 h = some q → J κ 91 [] [] h (none, q)) (hq : itr2 (F_X8_sumWhatIsAhead_10 k91) N x1 h = some q) : J κ 10 [(0, .inr (.inr 133)), (1, .inl x1)] [] h (none, q) :=
  itr2_ind (fun self hs x1 h q hq => tF_X8_sumWhatIsAhead_10 X k91 self x1 h q hk91 hs hq) N x1 h q hq
theorem tf_X8_sumWhatIsAhead {κ : Kx} (X : OK κ cX8_sumWhatIsAhead 4 (none) "StruckWords$Tear" 2) (h : Hp) (q : Hp) (hq : f_X8_sumWhatIsAhead h = some q) : J κ 0 [(0, .inr (.inr 133))] [] h (none, q) := by
  delta f_X8_sumWhatIsAhead at hq
  refine J_aload_n (pc := 0) X (j := 0) (i := 0) rfl rfl dX8_sumWhatIsAhead_0 ?_
  refine J_getF (pc := 1) X (b := 138) ly133 fl_8_28 rfl dX8_sumWhatIsAhead_1 ?_
  refine J_lconst (pc := 4) X (v := 0) (by decide) dX8_sumWhatIsAhead_4 ?_
  obtain ⟨h1, hc, hq⟩ := bnv_e hq
  refine J_callS (pc := 5) (as := [.inr (.inr 138), .inr (.inl 0)]) (st := []) (st2 := []) (r1 := (none, h1)) (h2 := h1) (ky := 1) X dX8_sumWhatIsAhead_5 ca_J7_fill_d0a16 cz_J7_fill_d0a16 ml_8_84 (by decide) (m_J7_fill_d0a16 _ _ _ _ (aln_of ly138) hc) rfl rfl (Nat.le_of_ble_eq_true rfl) rfl rfl ?_
  refine J_iconst (pc := 8) X (v := 0) (by decide) dX8_sumWhatIsAhead_8 ?_
  refine J_istore_n (pc := 9) X (L' := [(1, .inl 0), (0, .inr (.inr 133))]) (i := 1) rfl (by decide) rfl dX8_sumWhatIsAhead_9 ?_
  refine J_sub [1, 0] rfl ?_
  refine tL_X8_sumWhatIsAhead_10 X _ N0 _ _ _ ?_ hq
  · intro h18 q hq
    obtain rfl := Option.some.inj hq
    exact J_vret (pc := 91) X dX8_sumWhatIsAhead_91
theorem m_X8_sumWhatIsAhead (h : Hp) (q : Hp) (hq : f_X8_sumWhatIsAhead  h = some q) : ∀ l w, CT l w yX8_sumWhatIsAhead cX8_sumWhatIsAhead 4 (none) 2 [.inr (.inr 133)] h (none, q) :=
  CT_of (L0 := [(0, .inr (.inr 133))]) (by decide) rfl (Nat.le_of_ble_eq_true rfl) (fun κ X => tf_X8_sumWhatIsAhead X  h q  hq)
theorem tF_X8_countAll_40 {κ : Kx} (X : OK κ cX8_countAll 3 (none) "StruckWords$Tear" 3) (x1 : Int32) (k71 : Hp → Option Hp) (self : Int32 → Hp → Option Hp) (x2 : Int32) (h : Hp) (q : Hp) (hk71 : ∀ (h : Hp) (q : Hp), k71 h = some q → J κ 71 [(0, .inr (.inr 133)), (1, .inl x1)] [] h (none, q)) (hself : ∀ (x2 : Int32) (h : Hp) (q : Hp), self x2 h = some q → J κ 40 [(0, .inr (.inr 133)), (1, .inl x1), (2, .inl x2)] [] h (none, q)) (hq : F_X8_countAll_40 x1 k71 self x2 h = some q) : J κ 40 [(0, .inr (.inr 133)), (1, .inl x1), (2, .inl x2)] [] h (none, q) := by
  delta F_X8_countAll_40 at hq
  refine J_iload_n (pc := 40) X (j := 2) (i := 2) rfl rfl dX8_countAll_40 ?_
  refine J_aload_n (pc := 41) X (j := 0) (i := 0) rfl rfl dX8_countAll_41 ?_
  refine J_getR (pc := 42) X ly133 fl_8_38 dX8_countAll_42 ?_
  refine J_ltR hq (fun r6 hq => ?_)
  obtain ⟨g7, hq⟩ := gd hq
  refine J_getI (pc := 45) X (isO_lay g7) fl_8_93 dX8_countAll_45 ?_
  refine J_icmp_ge (pc := 48) (tgt := 71) X dX8_countAll_48 rfl (fun c8 => ?_) (fun c8 => ?_)
  · have hq := ite_t hq c8
    refine J_sub [0, 1] rfl ?_
    exact hk71 _ _ hq
  · have hq := ite_f hq c8
    refine J_aload_n (pc := 51) X (j := 0) (i := 0) rfl rfl dX8_countAll_51 ?_
    refine J_iload_n (pc := 52) X (j := 1) (i := 1) rfl rfl dX8_countAll_52 ?_
    refine J_iload_n (pc := 53) X (j := 2) (i := 2) rfl rfl dX8_countAll_53 ?_
    obtain ⟨v10, h9, hc, hq⟩ := bnd_e hq
    refine J_callV (pc := 54) (as := [.inl x1, .inl x2]) (st := []) (st2 := [.inl v10]) (r1 := (some (.inl v10), h9)) (h2 := h9) (ky := 1) X dX8_countAll_54 ca_X8_mayStandAt ci_X8_mayStandAt cs_X8_mayStandAt ml_8_96 (by decide) ly133 rfl rfl (m_X8_mayStandAt _ _ _ _ hc) rfl rfl (Nat.le_of_ble_eq_true rfl) rfl rfl ?_
    refine J_if_eq (pc := 57) (tgt := 65) X dX8_countAll_57 rfl (fun c11 => ?_) (fun c11 => ?_)
    · have hq := ite_t hq c11
      refine J_iinc (pc := 65) X (j := 2) (v := 1) (L' := [(2, .inl (x2 + 1)), (0, .inr (.inr 133)), (1, .inl x1)]) rfl (by decide) (by decide) rfl dX8_countAll_65 ?_
      refine J_goto (pc := 68) X (tgt := 40) dX8_countAll_68 rfl ?_
      refine J_sub [1, 2, 0] rfl ?_
      exact hself _ _ _ hq
    · have hq := ite_f hq c11
      refine J_aload_n (pc := 60) X (j := 0) (i := 0) rfl rfl dX8_countAll_60 ?_
      refine J_iload_n (pc := 61) X (j := 2) (i := 2) rfl rfl dX8_countAll_61 ?_
      obtain ⟨h12, hc, hq⟩ := bnv_e hq
      refine J_callV (pc := 62) (as := [.inl x2]) (st := []) (st2 := []) (r1 := (none, h12)) (h2 := h12) (ky := 2) X dX8_countAll_62 ca_X8_countWith ci_X8_countWith cs_X8_countWith ml_8_99 (by decide) ly133 rfl rfl (m_X8_countWith _ _ _ hc) rfl rfl (Nat.le_of_ble_eq_true rfl) rfl rfl ?_
      refine J_iinc (pc := 65) X (j := 2) (v := 1) (L' := [(2, .inl (x2 + 1)), (0, .inr (.inr 133)), (1, .inl x1)]) rfl (by decide) (by decide) rfl dX8_countAll_65 ?_
      refine J_goto (pc := 68) X (tgt := 40) dX8_countAll_68 rfl ?_
      refine J_sub [1, 2, 0] rfl ?_
      exact hself _ _ _ hq
theorem tL_X8_countAll_40 {κ : Kx} (X : OK κ cX8_countAll 3 (none) "StruckWords$Tear" 3) (x1 : Int32) (k71 : Hp → Option Hp) (N : Nat) (x2 : Int32) (h : Hp) (q : Hp) (hk71 : ∀ (h : Hp) (q : Hp), k71 h = some q → J κ 71 [(0, .inr (.inr 133)), (1, .inl x1)] [] h (none, q)) (hq : itr2 (F_X8_countAll_40 x1 k71) N x2 h = some q) : J κ 40 [(0, .inr (.inr 133)), (1, .inl x1), (2, .inl x2)] [] h (none, q) :=
  itr2_ind (fun self hs x2 h q hq => tF_X8_countAll_40 X x1 k71 self x2 h q hk71 hs hq) N x2 h q hq
theorem tF_X8_countAll_18 {κ : Kx} (X : OK κ cX8_countAll 3 (none) "StruckWords$Tear" 3) (k77 : Hp → Option Hp) (self : Int32 → Hp → Option Hp) (x1 : Int32) (h : Hp) (q : Hp) (hk77 : ∀ (h : Hp) (q : Hp), k77 h = some q → J κ 77 [(0, .inr (.inr 133))] [] h (none, q)) (hself : ∀ (x1 : Int32) (h : Hp) (q : Hp), self x1 h = some q → J κ 18 [(0, .inr (.inr 133)), (1, .inl x1)] [] h (none, q)) (hq : F_X8_countAll_18 k77 self x1 h = some q) : J κ 18 [(0, .inr (.inr 133)), (1, .inl x1)] [] h (none, q) := by
  delta F_X8_countAll_18 at hq
  refine J_iload_n (pc := 18) X (j := 1) (i := 1) rfl rfl dX8_countAll_18 ?_
  refine J_aload_n (pc := 19) X (j := 0) (i := 0) rfl rfl dX8_countAll_19 ?_
  refine J_getI (pc := 20) X ly133 fl_8_48 dX8_countAll_20 ?_
  refine J_icmp_ge (pc := 23) (tgt := 77) X dX8_countAll_23 rfl (fun c3 => ?_) (fun c3 => ?_)
  · have hq := ite_t hq c3
    refine J_sub [0] rfl ?_
    exact hk77 _ _ hq
  · have hq := ite_f hq c3
    refine J_aload_n (pc := 26) X (j := 0) (i := 0) rfl rfl dX8_countAll_26 ?_
    obtain ⟨h4, hc, hq⟩ := bnv_e hq
    refine J_callV (pc := 27) (as := []) (st := []) (st2 := []) (r1 := (none, h4)) (h2 := h4) (ky := 2) X dX8_countAll_27 ca_X8_sumWhatIsAhead ci_X8_sumWhatIsAhead cs_X8_sumWhatIsAhead ml_8_90 (by decide) ly133 rfl rfl (m_X8_sumWhatIsAhead _ _ hc) rfl rfl (Nat.le_of_ble_eq_true rfl) rfl rfl ?_
    refine J_aload_n (pc := 30) X (j := 0) (i := 0) rfl rfl dX8_countAll_30 ?_
    refine J_getF (pc := 31) X (b := 137) ly133 fl_8_24 rfl dX8_countAll_31 ?_
    refine J_lconst (pc := 34) X (v := 0) (by decide) dX8_countAll_34 ?_
    obtain ⟨h5, hc, hq⟩ := bnv_e hq
    refine J_callS (pc := 35) (as := [.inr (.inr 137), .inr (.inl 0)]) (st := []) (st2 := []) (r1 := (none, h5)) (h2 := h5) (ky := 1) X dX8_countAll_35 ca_J7_fill_d0a16 cz_J7_fill_d0a16 ml_8_84 (by decide) (m_J7_fill_d0a16 _ _ _ _ (aln_of ly137) hc) rfl rfl (Nat.le_of_ble_eq_true rfl) rfl rfl ?_
    refine J_iconst (pc := 38) X (v := 0) (by decide) dX8_countAll_38 ?_
    refine J_istore_n (pc := 39) X (L' := [(2, .inl 0), (0, .inr (.inr 133)), (1, .inl x1)]) (i := 2) rfl (by decide) rfl dX8_countAll_39 ?_
    refine J_sub [1, 2, 0] rfl ?_
    refine tL_X8_countAll_40 X _ _ N0 _ _ _ ?_ hq
    · intro h13 q hq
      refine J_iinc (pc := 71) X (j := 1) (v := 1) (L' := [(1, .inl (x1 + 1)), (0, .inr (.inr 133))]) rfl (by decide) (by decide) rfl dX8_countAll_71 ?_
      refine J_goto (pc := 74) X (tgt := 18) dX8_countAll_74 rfl ?_
      refine J_sub [1, 0] rfl ?_
      exact hself _ _ _ hq
theorem tL_X8_countAll_18 {κ : Kx} (X : OK κ cX8_countAll 3 (none) "StruckWords$Tear" 3) (k77 : Hp → Option Hp) (N : Nat) (x1 : Int32) (h : Hp) (q : Hp) (hk77 : ∀ (h : Hp) (q : Hp), k77 h = some q → J κ 77 [(0, .inr (.inr 133))] [] h (none, q)) (hq : itr2 (F_X8_countAll_18 k77) N x1 h = some q) : J κ 18 [(0, .inr (.inr 133)), (1, .inl x1)] [] h (none, q) :=
  itr2_ind (fun self hs x1 h q hq => tF_X8_countAll_18 X k77 self x1 h q hk77 hs hq) N x1 h q hq
theorem tF_X8_countAll_89 {κ : Kx} (X : OK κ cX8_countAll 3 (none) "StruckWords$Tear" 3) (k156 : Hp → Option Hp) (self : Int32 → Hp → Option Hp) (x1 : Int32) (h : Hp) (q : Hp) (hk156 : ∀ (h : Hp) (q : Hp), k156 h = some q → J κ 156 [] [] h (none, q)) (hself : ∀ (x1 : Int32) (h : Hp) (q : Hp), self x1 h = some q → J κ 89 [(0, .inr (.inr 133)), (1, .inl x1)] [] h (none, q)) (hq : F_X8_countAll_89 k156 self x1 h = some q) : J κ 89 [(0, .inr (.inr 133)), (1, .inl x1)] [] h (none, q) := by
  delta F_X8_countAll_89 at hq
  refine J_iload_n (pc := 89) X (j := 1) (i := 1) rfl rfl dX8_countAll_89 ?_
  refine J_bipush (pc := 90) X (v := 40) (by decide) dX8_countAll_90 ?_
  refine J_icmp_ge (pc := 92) (tgt := 156) X dX8_countAll_92 rfl (fun c17 => ?_) (fun c17 => ?_)
  · have hq := ite_t hq c17
    refine J_sub [] rfl ?_
    exact hk156 _ _ hq
  · have hq := ite_f hq c17
    refine J_aload_n (pc := 95) X (j := 0) (i := 0) rfl rfl dX8_countAll_95 ?_
    refine J_getF (pc := 96) X (b := 137) ly133 fl_8_24 rfl dX8_countAll_96 ?_
    refine J_iload_n (pc := 99) X (j := 1) (i := 1) rfl rfl dX8_countAll_99 ?_
    obtain ⟨g18, hq⟩ := gd hq
    refine J_laload (pc := 100) X ly137 g18 dX8_countAll_100 ?_
    refine J_lconst (pc := 101) X (v := 0) (by decide) dX8_countAll_101 ?_
    refine J_lcmp (pc := 102) X dX8_countAll_102 ?_
    refine J_if_eq (pc := 103) (tgt := 150) X dX8_countAll_103 rfl (fun c19 => ?_) (fun c19 => ?_)
    · have hq := ite_t hq c19
      refine J_iinc (pc := 150) X (j := 1) (v := 1) (L' := [(1, .inl (x1 + 1)), (0, .inr (.inr 133))]) rfl (by decide) (by decide) rfl dX8_countAll_150 ?_
      refine J_goto (pc := 153) X (tgt := 89) dX8_countAll_153 rfl ?_
      refine J_sub [1, 0] rfl ?_
      exact hself _ _ _ hq
    · have hq := ite_f hq c19
      refine J_aload_n (pc := 106) X (j := 0) (i := 0) rfl rfl dX8_countAll_106 ?_
      refine J_getR (pc := 107) X ly133 fl_8_38 dX8_countAll_107 ?_
      refine J_ltR hq (fun r20 hq => ?_)
      obtain ⟨g21, hq⟩ := gd hq
      refine J_iload_n (pc := 110) X (j := 1) (i := 1) rfl rfl dX8_countAll_110 ?_
      refine J_bipush (pc := 111) X (v := 8) (by decide) dX8_countAll_111 ?_
      refine J_idiv (pc := 113) X (by decide) dX8_countAll_113 ?_
      obtain ⟨v23, h22, hc, hq⟩ := bnd_e hq
      refine J_callV (pc := 114) (as := [.inl (x1 / 8)]) (st := []) (st2 := [.inl v23]) (r1 := (some (.inl v23), h22)) (h2 := h22) (ky := 1) X dX8_countAll_114 ca_X10_mayEnd ci_X10_mayEnd cs_X10_mayEnd ml_8_108 (by decide) (isO_lay g21) rfl rfl (m_X10_mayEnd _ _ _ _ (isO_lay g21) hc) rfl rfl (Nat.le_of_ble_eq_true rfl) rfl rfl ?_
      refine J_if_eq (pc := 117) (tgt := 150) X dX8_countAll_117 rfl (fun c24 => ?_) (fun c24 => ?_)
      · have hq := ite_t hq c24
        refine J_iinc (pc := 150) X (j := 1) (v := 1) (L' := [(1, .inl (x1 + 1)), (0, .inr (.inr 133))]) rfl (by decide) (by decide) rfl dX8_countAll_150 ?_
        refine J_goto (pc := 153) X (tgt := 89) dX8_countAll_153 rfl ?_
        refine J_sub [1, 0] rfl ?_
        exact hself _ _ _ hq
      · have hq := ite_f hq c24
        refine J_aload_n (pc := 120) X (j := 0) (i := 0) rfl rfl dX8_countAll_120 ?_
        refine J_dup (pc := 121) X rfl dX8_countAll_121 ?_
        refine J_getL (pc := 122) X ly133 fl_8_102 dX8_countAll_122 ?_
        refine J_aload_n (pc := 125) X (j := 0) (i := 0) rfl rfl dX8_countAll_125 ?_
        refine J_getF (pc := 126) X (b := 137) ly133 fl_8_24 rfl dX8_countAll_126 ?_
        refine J_iload_n (pc := 129) X (j := 1) (i := 1) rfl rfl dX8_countAll_129 ?_
        obtain ⟨g25, hq⟩ := gd hq
        refine J_laload (pc := 130) X ly137 g25 dX8_countAll_130 ?_
        refine J_ladd (pc := 131) X dX8_countAll_131 ?_
        refine J_putL (pc := 132) X ly133 fp_8_102 dX8_countAll_132 ?_
        refine J_ltH hq (fun h26 hq => ?_)
        refine J_aload_n (pc := 135) X (j := 0) (i := 0) rfl rfl dX8_countAll_135 ?_
        refine J_dup (pc := 136) X rfl dX8_countAll_136 ?_
        refine J_getI (pc := 137) X ly133 fl_8_105 dX8_countAll_137 ?_
        refine J_iconst (pc := 140) X (v := 1) (by decide) dX8_countAll_140 ?_
        refine J_iload_n (pc := 141) X (j := 1) (i := 1) rfl rfl dX8_countAll_141 ?_
        refine J_bipush (pc := 142) X (v := 8) (by decide) dX8_countAll_142 ?_
        refine J_irem (pc := 144) X (by decide) dX8_countAll_144 ?_
        refine J_ishl (pc := 145) X dX8_countAll_145 ?_
        refine J_ior (pc := 146) X dX8_countAll_146 ?_
        refine J_putI (pc := 147) X ly133 fp_8_105 dX8_countAll_147 ?_
        refine J_ltH hq (fun h27 hq => ?_)
        refine J_iinc (pc := 150) X (j := 1) (v := 1) (L' := [(1, .inl (x1 + 1)), (0, .inr (.inr 133))]) rfl (by decide) (by decide) rfl dX8_countAll_150 ?_
        refine J_goto (pc := 153) X (tgt := 89) dX8_countAll_153 rfl ?_
        refine J_sub [1, 0] rfl ?_
        exact hself _ _ _ hq
theorem tL_X8_countAll_89 {κ : Kx} (X : OK κ cX8_countAll 3 (none) "StruckWords$Tear" 3) (k156 : Hp → Option Hp) (N : Nat) (x1 : Int32) (h : Hp) (q : Hp) (hk156 : ∀ (h : Hp) (q : Hp), k156 h = some q → J κ 156 [] [] h (none, q)) (hq : itr2 (F_X8_countAll_89 k156) N x1 h = some q) : J κ 89 [(0, .inr (.inr 133)), (1, .inl x1)] [] h (none, q) :=
  itr2_ind (fun self hs x1 h q hq => tF_X8_countAll_89 X k156 self x1 h q hk156 hs hq) N x1 h q hq
theorem tf_X8_countAll {κ : Kx} (X : OK κ cX8_countAll 3 (none) "StruckWords$Tear" 3) (h : Hp) (q : Hp) (hq : f_X8_countAll h = some q) : J κ 0 [(0, .inr (.inr 133))] [] h (none, q) := by
  delta f_X8_countAll at hq
  refine J_aload_n (pc := 0) X (j := 0) (i := 0) rfl rfl dX8_countAll_0 ?_
  refine J_getF (pc := 1) X (b := 137) ly133 fl_8_24 rfl dX8_countAll_1 ?_
  refine J_lconst (pc := 4) X (v := 0) (by decide) dX8_countAll_4 ?_
  obtain ⟨h1, hc, hq⟩ := bnv_e hq
  refine J_callS (pc := 5) (as := [.inr (.inr 137), .inr (.inl 0)]) (st := []) (st2 := []) (r1 := (none, h1)) (h2 := h1) (ky := 1) X dX8_countAll_5 ca_J7_fill_d0a16 cz_J7_fill_d0a16 ml_8_84 (by decide) (m_J7_fill_d0a16 _ _ _ _ (aln_of ly137) hc) rfl rfl (Nat.le_of_ble_eq_true rfl) rfl rfl ?_
  refine J_aload_n (pc := 8) X (j := 0) (i := 0) rfl rfl dX8_countAll_8 ?_
  refine J_getF (pc := 9) X (b := 137) ly133 fl_8_24 rfl dX8_countAll_9 ?_
  refine J_bipush (pc := 12) X (v := 40) (by decide) dX8_countAll_12 ?_
  refine J_lconst (pc := 14) X (v := 1) (by decide) dX8_countAll_14 ?_
  refine J_lastore (pc := 15) X ly137 (by decide) dX8_countAll_15 ?_
  refine J_ltH hq (fun h2 hq => ?_)
  refine J_iconst (pc := 16) X (v := 0) (by decide) dX8_countAll_16 ?_
  refine J_istore_n (pc := 17) X (L' := [(1, .inl 0), (0, .inr (.inr 133))]) (i := 1) rfl (by decide) rfl dX8_countAll_17 ?_
  refine J_sub [1, 0] rfl ?_
  refine tL_X8_countAll_18 X _ N0 _ _ _ ?_ hq
  · intro h14 q hq
    refine J_aload_n (pc := 77) X (j := 0) (i := 0) rfl rfl dX8_countAll_77 ?_
    refine J_lconst (pc := 78) X (v := 0) (by decide) dX8_countAll_78 ?_
    refine J_putL (pc := 79) X ly133 fp_8_102 dX8_countAll_79 ?_
    refine J_ltH hq (fun h15 hq => ?_)
    refine J_aload_n (pc := 82) X (j := 0) (i := 0) rfl rfl dX8_countAll_82 ?_
    refine J_iconst (pc := 83) X (v := 0) (by decide) dX8_countAll_83 ?_
    refine J_putI (pc := 84) X ly133 fp_8_105 dX8_countAll_84 ?_
    refine J_ltH hq (fun h16 hq => ?_)
    refine J_iconst (pc := 87) X (v := 0) (by decide) dX8_countAll_87 ?_
    refine J_istore_n (pc := 88) X (L' := [(1, .inl 0), (0, .inr (.inr 133))]) (i := 1) rfl (by decide) rfl dX8_countAll_88 ?_
    refine J_sub [1, 0] rfl ?_
    refine tL_X8_countAll_89 X _ N0 _ _ _ ?_ hq
    · intro h28 q hq
      obtain rfl := Option.some.inj hq
      exact J_vret (pc := 156) X dX8_countAll_156
theorem m_X8_countAll (h : Hp) (q : Hp) (hq : f_X8_countAll  h = some q) : ∀ l w, CT l w yX8_countAll cX8_countAll 3 (none) 3 [.inr (.inr 133)] h (none, q) :=
  CT_of (L0 := [(0, .inr (.inr 133))]) (by decide) rfl (Nat.le_of_ble_eq_true rfl) (fun κ X => tf_X8_countAll X  h q  hq)
theorem tF_X12_meaningsWith_4 {κ : Kx} (X : OK κ cX12_meaningsWith 3 (some .int) "StruckWords" 1) (x0 : Int32) (k30 : Int32 → Hp → Option (Int32 × Hp)) (self : Int32 → Int32 → Hp → Option (Int32 × Hp)) (x1 : Int32) (x2 : Int32) (h : Hp) (q : (Int32 × Hp)) (hk30 : ∀ (x1 : Int32) (h : Hp) (q : (Int32 × Hp)), k30 x1 h = some q → J κ 30 [(1, .inl x1)] [] h (some (.inl q.1), q.2)) (hself : ∀ (x1 : Int32) (x2 : Int32) (h : Hp) (q : (Int32 × Hp)), self x1 x2 h = some q → J κ 4 [(0, .inl x0), (1, .inl x1), (2, .inl x2)] [] h (some (.inl q.1), q.2)) (hq : F_X12_meaningsWith_4 x0 k30 self x1 x2 h = some q) : J κ 4 [(0, .inl x0), (1, .inl x1), (2, .inl x2)] [] h (some (.inl q.1), q.2) := by
  delta F_X12_meaningsWith_4 at hq
  refine J_iload_n (pc := 4) X (j := 2) (i := 2) rfl rfl dX12_meaningsWith_4 ?_
  refine J_bipush (pc := 5) X (v := 8) (by decide) dX12_meaningsWith_5 ?_
  refine J_icmp_ge (pc := 7) (tgt := 30) X dX12_meaningsWith_7 rfl (fun c1 => ?_) (fun c1 => ?_)
  · have hq := ite_t hq c1
    refine J_sub [1] rfl ?_
    exact hk30 _ _ _ hq
  · have hq := ite_f hq c1
    refine J_iload_n (pc := 10) X (j := 2) (i := 2) rfl rfl dX12_meaningsWith_10 ?_
    refine J_iload_n (pc := 11) X (j := 0) (i := 0) rfl rfl dX12_meaningsWith_11 ?_
    refine J_ishr (pc := 12) X dX12_meaningsWith_12 ?_
    refine J_iconst (pc := 13) X (v := 1) (by decide) dX12_meaningsWith_13 ?_
    refine J_iand (pc := 14) X dX12_meaningsWith_14 ?_
    refine J_if_eq (pc := 15) (tgt := 24) X dX12_meaningsWith_15 rfl (fun c2 => ?_) (fun c2 => ?_)
    · have hq := ite_t hq c2
      refine J_iinc (pc := 24) X (j := 2) (v := 1) (L' := [(2, .inl (x2 + 1)), (0, .inl x0), (1, .inl x1)]) rfl (by decide) (by decide) rfl dX12_meaningsWith_24 ?_
      refine J_goto (pc := 27) X (tgt := 4) dX12_meaningsWith_27 rfl ?_
      refine J_sub [1, 2, 0] rfl ?_
      exact hself _ _ _ _ hq
    · have hq := ite_f hq c2
      refine J_iload_n (pc := 18) X (j := 1) (i := 1) rfl rfl dX12_meaningsWith_18 ?_
      refine J_iconst (pc := 19) X (v := 1) (by decide) dX12_meaningsWith_19 ?_
      refine J_iload_n (pc := 20) X (j := 2) (i := 2) rfl rfl dX12_meaningsWith_20 ?_
      refine J_ishl (pc := 21) X dX12_meaningsWith_21 ?_
      refine J_ior (pc := 22) X dX12_meaningsWith_22 ?_
      refine J_ltI hq (fun v3 hq => ?_)
      refine J_istore_n (pc := 23) X (L' := [(1, .inl v3), (0, .inl x0), (2, .inl x2)]) (i := 1) rfl (by decide) rfl dX12_meaningsWith_23 ?_
      refine J_iinc (pc := 24) X (j := 2) (v := 1) (L' := [(2, .inl (x2 + 1)), (1, .inl v3), (0, .inl x0)]) rfl (by decide) (by decide) rfl dX12_meaningsWith_24 ?_
      refine J_goto (pc := 27) X (tgt := 4) dX12_meaningsWith_27 rfl ?_
      refine J_sub [2, 1, 0] rfl ?_
      exact hself _ _ _ _ hq
theorem tL_X12_meaningsWith_4 {κ : Kx} (X : OK κ cX12_meaningsWith 3 (some .int) "StruckWords" 1) (x0 : Int32) (k30 : Int32 → Hp → Option (Int32 × Hp)) (N : Nat) (x1 : Int32) (x2 : Int32) (h : Hp) (q : (Int32 × Hp)) (hk30 : ∀ (x1 : Int32) (h : Hp) (q : (Int32 × Hp)), k30 x1 h = some q → J κ 30 [(1, .inl x1)] [] h (some (.inl q.1), q.2)) (hq : itr3 (F_X12_meaningsWith_4 x0 k30) N x1 x2 h = some q) : J κ 4 [(0, .inl x0), (1, .inl x1), (2, .inl x2)] [] h (some (.inl q.1), q.2) :=
  itr3_ind (fun self hs x1 x2 h q hq => tF_X12_meaningsWith_4 X x0 k30 self x1 x2 h q hk30 hs hq) N x1 x2 h q hq
theorem tf_X12_meaningsWith {κ : Kx} (X : OK κ cX12_meaningsWith 3 (some .int) "StruckWords" 1) (x0 : Int32) (h : Hp) (q : (Int32 × Hp)) (hq : f_X12_meaningsWith x0 h = some q) : J κ 0 [(0, .inl x0)] [] h (some (.inl q.1), q.2) := by
  delta f_X12_meaningsWith at hq
  refine J_iconst (pc := 0) X (v := 0) (by decide) dX12_meaningsWith_0 ?_
  refine J_istore_n (pc := 1) X (L' := [(1, .inl 0), (0, .inl x0)]) (i := 1) rfl (by decide) rfl dX12_meaningsWith_1 ?_
  refine J_iconst (pc := 2) X (v := 0) (by decide) dX12_meaningsWith_2 ?_
  refine J_istore_n (pc := 3) X (L' := [(2, .inl 0), (1, .inl 0), (0, .inl x0)]) (i := 2) rfl (by decide) rfl dX12_meaningsWith_3 ?_
  refine J_sub [2, 1, 0] rfl ?_
  refine tL_X12_meaningsWith_4 X _ _ N0 _ _ _ _ ?_ hq
  · intro v5 h4 q hq
    refine J_iload_n (pc := 30) X (j := 0) (i := 1) rfl rfl dX12_meaningsWith_30 ?_
    obtain rfl := Option.some.inj hq
    exact J_iret (pc := 31) X dX12_meaningsWith_31
theorem m_X12_meaningsWith (x0 : Int32) (h : Hp) (q : (Int32 × Hp)) (hq : f_X12_meaningsWith x0 h = some q) : ∀ l w, CT l w yX12_meaningsWith cX12_meaningsWith 3 (some .int) 1 [.inl x0] h (some (.inl q.1), q.2) :=
  CT_of (L0 := [(0, .inl x0)]) (by decide) rfl (Nat.le_of_ble_eq_true rfl) (fun κ X => tf_X12_meaningsWith X x0 h q  hq)
theorem tB_X8_tellSure_80 {κ : Kx} (X : OK κ cX8_tellSure 3 (none) "StruckWords$Tear" 2) (k90 : Hp → Option Hp) (self : Int32 → Hp → Option Hp) (x1 : Int32) (t0 : Int32) (t1 : Int32) (h : Hp) (q : Hp) (hk90 : ∀ (h : Hp) (q : Hp), k90 h = some q → J κ 90 [] [] h (none, q)) (hself : ∀ (x1 : Int32) (h : Hp) (q : Hp), self x1 h = some q → J κ 12 [(0, .inr (.inr 133)), (1, .inl x1)] [] h (none, q)) (hq : B_X8_tellSure_80 k90 self x1 t0 t1 h = some q) : J κ 80 [(0, .inr (.inr 133)), (1, .inl x1)] [.inl t0, .inl t1, .inr (.inr 133)] h (none, q) := by
  delta B_X8_tellSure_80 at hq
  refine J_ior (pc := 80) X dX8_tellSure_80 ?_
  refine J_putI (pc := 81) X ly133 fp_8_128 dX8_tellSure_81 ?_
  refine J_ltH hq (fun h13 hq => ?_)
  refine J_iinc (pc := 84) X (j := 1) (v := 1) (L' := [(1, .inl (x1 + 1)), (0, .inr (.inr 133))]) rfl (by decide) (by decide) rfl dX8_tellSure_84 ?_
  refine J_goto (pc := 87) X (tgt := 12) dX8_tellSure_87 rfl ?_
  refine J_sub [1, 0] rfl ?_
  exact hself _ _ _ hq
theorem tB_X8_tellSure_60 {κ : Kx} (X : OK κ cX8_tellSure 3 (none) "StruckWords$Tear" 2) (k90 : Hp → Option Hp) (self : Int32 → Hp → Option Hp) (x1 : Int32) (x2 : Int32) (t0 : Int32) (t1 : Int32) (h : Hp) (q : Hp) (hk90 : ∀ (h : Hp) (q : Hp), k90 h = some q → J κ 90 [] [] h (none, q)) (hself : ∀ (x1 : Int32) (h : Hp) (q : Hp), self x1 h = some q → J κ 12 [(0, .inr (.inr 133)), (1, .inl x1)] [] h (none, q)) (hq : B_X8_tellSure_60 k90 self x1 x2 t0 t1 h = some q) : J κ 60 [(0, .inr (.inr 133)), (1, .inl x1), (2, .inl x2)] [.inl t0, .inl t1, .inr (.inr 133)] h (none, q) := by
  delta B_X8_tellSure_60 at hq
  refine J_ior (pc := 60) X dX8_tellSure_60 ?_
  refine J_putI (pc := 61) X ly133 fp_8_125 dX8_tellSure_61 ?_
  refine J_ltH hq (fun h11 hq => ?_)
  refine J_aload_n (pc := 64) X (j := 0) (i := 0) rfl rfl dX8_tellSure_64 ?_
  refine J_dup (pc := 65) X rfl dX8_tellSure_65 ?_
  refine J_getI (pc := 66) X ly133 fl_8_128 dX8_tellSure_66 ?_
  refine J_iload_n (pc := 69) X (j := 2) (i := 2) rfl rfl dX8_tellSure_69 ?_
  refine J_if_ne (pc := 70) (tgt := 79) X dX8_tellSure_70 rfl (fun c12 => ?_) (fun c12 => ?_)
  · have hq := ite_f hq c12
    refine J_iconst (pc := 79) X (v := 0) (by decide) dX8_tellSure_79 ?_
    refine J_sub [0, 1] rfl ?_
    exact tB_X8_tellSure_80 X _ _ _ _ _ _ _ hk90 hself hq
  · have hq := ite_t hq c12
    refine J_iconst (pc := 73) X (v := 1) (by decide) dX8_tellSure_73 ?_
    refine J_iload_n (pc := 74) X (j := 1) (i := 1) rfl rfl dX8_tellSure_74 ?_
    refine J_ishl (pc := 75) X dX8_tellSure_75 ?_
    refine J_goto (pc := 76) X (tgt := 80) dX8_tellSure_76 rfl ?_
    refine J_sub [0, 1] rfl ?_
    exact tB_X8_tellSure_80 X _ _ _ _ _ _ _ hk90 hself hq
theorem tF_X8_tellSure_12 {κ : Kx} (X : OK κ cX8_tellSure 3 (none) "StruckWords$Tear" 2) (k90 : Hp → Option Hp) (self : Int32 → Hp → Option Hp) (x1 : Int32) (h : Hp) (q : Hp) (hk90 : ∀ (h : Hp) (q : Hp), k90 h = some q → J κ 90 [] [] h (none, q)) (hself : ∀ (x1 : Int32) (h : Hp) (q : Hp), self x1 h = some q → J κ 12 [(0, .inr (.inr 133)), (1, .inl x1)] [] h (none, q)) (hq : F_X8_tellSure_12 k90 self x1 h = some q) : J κ 12 [(0, .inr (.inr 133)), (1, .inl x1)] [] h (none, q) := by
  delta F_X8_tellSure_12 at hq
  refine J_iload_n (pc := 12) X (j := 1) (i := 1) rfl rfl dX8_tellSure_12 ?_
  refine J_aload_n (pc := 13) X (j := 0) (i := 0) rfl rfl dX8_tellSure_13 ?_
  refine J_getR (pc := 14) X ly133 fl_8_38 dX8_tellSure_14 ?_
  refine J_ltR hq (fun r3 hq => ?_)
  obtain ⟨g4, hq⟩ := gd hq
  refine J_getI (pc := 17) X (isO_lay g4) fl_8_131 dX8_tellSure_17 ?_
  refine J_icmp_ge (pc := 20) (tgt := 90) X dX8_tellSure_20 rfl (fun c5 => ?_) (fun c5 => ?_)
  · have hq := ite_t hq c5
    refine J_sub [] rfl ?_
    exact hk90 _ _ hq
  · have hq := ite_f hq c5
    refine J_aload_n (pc := 23) X (j := 0) (i := 0) rfl rfl dX8_tellSure_23 ?_
    refine J_getI (pc := 24) X ly133 fl_8_105 dX8_tellSure_24 ?_
    refine J_if_eq (pc := 27) (tgt := 90) X dX8_tellSure_27 rfl (fun c6 => ?_) (fun c6 => ?_)
    · have hq := ite_t hq c6
      refine J_sub [] rfl ?_
      exact hk90 _ _ hq
    · have hq := ite_f hq c6
      refine J_aload_n (pc := 30) X (j := 0) (i := 0) rfl rfl dX8_tellSure_30 ?_
      refine J_getI (pc := 31) X ly133 fl_8_105 dX8_tellSure_31 ?_
      refine J_iload_n (pc := 34) X (j := 1) (i := 1) rfl rfl dX8_tellSure_34 ?_
      obtain ⟨v8, h7, hc, hq⟩ := bnd_e hq
      refine J_callSN (pc := 35) (as := [.inl x1]) (st := [.inl (h.1 133 2)]) (st2 := [.inl v8, .inl (h.1 133 2)]) (r1 := (some (.inl v8), h7)) (h2 := h7) (ky := 1) X dX8_tellSure_35 ca_X12_meaningsWith cz_X12_meaningsWith mn_8_134 (by decide) (m_X12_meaningsWith _ _ _ hc) rfl rfl (Nat.le_of_ble_eq_true rfl) rfl rfl ?_
      refine J_iand (pc := 38) X dX8_tellSure_38 ?_
      refine J_ltI hq (fun v9 hq => ?_)
      refine J_istore_n (pc := 39) X (L' := [(2, .inl v9), (0, .inr (.inr 133)), (1, .inl x1)]) (i := 2) rfl (by decide) rfl dX8_tellSure_39 ?_
      refine J_aload_n (pc := 40) X (j := 1) (i := 0) rfl rfl dX8_tellSure_40 ?_
      refine J_dup (pc := 41) X rfl dX8_tellSure_41 ?_
      refine J_getI (pc := 42) X ly133 fl_8_125 dX8_tellSure_42 ?_
      refine J_iload_n (pc := 45) X (j := 0) (i := 2) rfl rfl dX8_tellSure_45 ?_
      refine J_aload_n (pc := 46) X (j := 1) (i := 0) rfl rfl dX8_tellSure_46 ?_
      refine J_getI (pc := 47) X ly133 fl_8_105 dX8_tellSure_47 ?_
      refine J_icmp_ne (pc := 50) (tgt := 59) X dX8_tellSure_50 rfl (fun c10 => ?_) (fun c10 => ?_)
      · have hq := ite_f hq c10
        refine J_iconst (pc := 59) X (v := 0) (by decide) dX8_tellSure_59 ?_
        refine J_sub [1, 2, 0] rfl ?_
        exact tB_X8_tellSure_60 X _ _ _ _ _ _ _ _ hk90 hself hq
      · have hq := ite_t hq c10
        refine J_iconst (pc := 53) X (v := 1) (by decide) dX8_tellSure_53 ?_
        refine J_iload_n (pc := 54) X (j := 2) (i := 1) rfl rfl dX8_tellSure_54 ?_
        refine J_ishl (pc := 55) X dX8_tellSure_55 ?_
        refine J_goto (pc := 56) X (tgt := 60) dX8_tellSure_56 rfl ?_
        refine J_sub [1, 2, 0] rfl ?_
        exact tB_X8_tellSure_60 X _ _ _ _ _ _ _ _ hk90 hself hq
theorem tL_X8_tellSure_12 {κ : Kx} (X : OK κ cX8_tellSure 3 (none) "StruckWords$Tear" 2) (k90 : Hp → Option Hp) (N : Nat) (x1 : Int32) (h : Hp) (q : Hp) (hk90 : ∀ (h : Hp) (q : Hp), k90 h = some q → J κ 90 [] [] h (none, q)) (hq : itr2 (F_X8_tellSure_12 k90) N x1 h = some q) : J κ 12 [(0, .inr (.inr 133)), (1, .inl x1)] [] h (none, q) :=
  itr2_ind (fun self hs x1 h q hq => tF_X8_tellSure_12 X k90 self x1 h q hk90 hs hq) N x1 h q hq
theorem tf_X8_tellSure {κ : Kx} (X : OK κ cX8_tellSure 3 (none) "StruckWords$Tear" 2) (h : Hp) (q : Hp) (hq : f_X8_tellSure h = some q) : J κ 0 [(0, .inr (.inr 133))] [] h (none, q) := by
  delta f_X8_tellSure at hq
  refine J_aload_n (pc := 0) X (j := 0) (i := 0) rfl rfl dX8_tellSure_0 ?_
  refine J_iconst (pc := 1) X (v := 0) (by decide) dX8_tellSure_1 ?_
  refine J_putI (pc := 2) X ly133 fp_8_125 dX8_tellSure_2 ?_
  refine J_ltH hq (fun h1 hq => ?_)
  refine J_aload_n (pc := 5) X (j := 0) (i := 0) rfl rfl dX8_tellSure_5 ?_
  refine J_iconst (pc := 6) X (v := 0) (by decide) dX8_tellSure_6 ?_
  refine J_putI (pc := 7) X ly133 fp_8_128 dX8_tellSure_7 ?_
  refine J_ltH hq (fun h2 hq => ?_)
  refine J_iconst (pc := 10) X (v := 0) (by decide) dX8_tellSure_10 ?_
  refine J_istore_n (pc := 11) X (L' := [(1, .inl 0), (0, .inr (.inr 133))]) (i := 1) rfl (by decide) rfl dX8_tellSure_11 ?_
  refine J_sub [1, 0] rfl ?_
  refine tL_X8_tellSure_12 X _ N0 _ _ _ ?_ hq
  · intro h14 q hq
    obtain rfl := Option.some.inj hq
    exact J_vret (pc := 90) X dX8_tellSure_90
theorem m_X8_tellSure (h : Hp) (q : Hp) (hq : f_X8_tellSure  h = some q) : ∀ l w, CT l w yX8_tellSure cX8_tellSure 3 (none) 2 [.inr (.inr 133)] h (none, q) :=
  CT_of (L0 := [(0, .inr (.inr 133))]) (by decide) rfl (Nat.le_of_ble_eq_true rfl) (fun κ X => tf_X8_tellSure X  h q  hq)
theorem tF_X8_weighWith_62 {κ : Kx} (X : OK κ cX8_weighWith 8 (none) "StruckWords$Tear" 2) (x1 : Int32) (x2 : Int32) (x3 : Int32) (x4 : Int32) (x5 : Int64) (k114 : Hp → Option Hp) (self : Int32 → Hp → Option Hp) (x7 : Int32) (h : Hp) (q : Hp) (hk114 : ∀ (h : Hp) (q : Hp), k114 h = some q → J κ 114 [(0, .inr (.inr 133)), (1, .inl x1), (2, .inl x2), (3, .inl x3), (4, .inl x4)] [] h (none, q)) (hself : ∀ (x7 : Int32) (h : Hp) (q : Hp), self x7 h = some q → J κ 62 [(0, .inr (.inr 133)), (1, .inl x1), (2, .inl x2), (3, .inl x3), (4, .inl x4), (5, .inr (.inl x5)), (7, .inl x7)] [] h (none, q)) (hq : F_X8_weighWith_62 x1 x2 x3 x4 x5 k114 self x7 h = some q) : J κ 62 [(0, .inr (.inr 133)), (1, .inl x1), (2, .inl x2), (3, .inl x3), (4, .inl x4), (5, .inr (.inl x5)), (7, .inl x7)] [] h (none, q) := by
  delta F_X8_weighWith_62 at hq
  refine J_iload (pc := 62) X (j := 6) rfl dX8_weighWith_62 ?_
  refine J_iconst (pc := 64) X (v := 5) (by decide) dX8_weighWith_64 ?_
  refine J_icmp_gt (pc := 65) (tgt := 114) X dX8_weighWith_65 rfl (fun c10 => ?_) (fun c10 => ?_)
  · have hq := ite_t hq c10
    refine J_sub [0, 1, 2, 3, 4] rfl ?_
    exact hk114 _ _ hq
  · have hq := ite_f hq c10
    refine J_lload (pc := 68) X (j := 5) rfl dX8_weighWith_68 ?_
    refine J_aload_n (pc := 70) X (j := 0) (i := 0) rfl rfl dX8_weighWith_70 ?_
    refine J_getF (pc := 71) X (b := 139) ly133 fl_8_31 rfl dX8_weighWith_71 ?_
    refine J_iload_n (pc := 74) X (j := 3) (i := 3) rfl rfl dX8_weighWith_74 ?_
    refine J_iload (pc := 75) X (j := 6) rfl dX8_weighWith_75 ?_
    refine J_iadd (pc := 77) X dX8_weighWith_77 ?_
    obtain ⟨g11, hq⟩ := gd hq
    refine J_laload (pc := 78) X ly139 g11 dX8_weighWith_78 ?_
    refine J_lcmp (pc := 79) X dX8_weighWith_79 ?_
    refine J_if_le (pc := 80) (tgt := 108) X dX8_weighWith_80 rfl (fun c12 => ?_) (fun c12 => ?_)
    · have hq := ite_t hq c12
      refine J_iinc (pc := 108) X (j := 6) (v := 1) (L' := [(7, .inl (x7 + 1)), (0, .inr (.inr 133)), (1, .inl x1), (2, .inl x2), (3, .inl x3), (4, .inl x4), (5, .inr (.inl x5))]) rfl (by decide) (by decide) rfl dX8_weighWith_108 ?_
      refine J_goto (pc := 111) X (tgt := 62) dX8_weighWith_111 rfl ?_
      refine J_sub [1, 2, 3, 4, 5, 6, 0] rfl ?_
      exact hself _ _ _ hq
    · have hq := ite_f hq c12
      refine J_aload_n (pc := 83) X (j := 0) (i := 0) rfl rfl dX8_weighWith_83 ?_
      refine J_getR (pc := 84) X ly133 fl_8_38 dX8_weighWith_84 ?_
      refine J_ltR hq (fun r13 hq => ?_)
      obtain ⟨g14, hq⟩ := gd hq
      refine J_iload (pc := 87) X (j := 6) rfl dX8_weighWith_87 ?_
      refine J_iload (pc := 89) X (j := 4) rfl dX8_weighWith_89 ?_
      obtain ⟨v16, h15, hc, hq⟩ := bnd_e hq
      refine J_callV (pc := 91) (as := [.inl x7, .inl x4]) (st := []) (st2 := [.inl v16]) (r1 := (some (.inl v16), h15)) (h2 := h15) (ky := 1) X dX8_weighWith_91 ca_X10_mayFollow ci_X10_mayFollow cs_X10_mayFollow ml_8_115 (by decide) (isO_lay g14) rfl rfl (m_X10_mayFollow _ _ _ _ _ (isO_lay g14) hc) rfl rfl (Nat.le_of_ble_eq_true rfl) rfl rfl ?_
      refine J_if_eq (pc := 94) (tgt := 108) X dX8_weighWith_94 rfl (fun c17 => ?_) (fun c17 => ?_)
      · have hq := ite_t hq c17
        refine J_iinc (pc := 108) X (j := 6) (v := 1) (L' := [(7, .inl (x7 + 1)), (0, .inr (.inr 133)), (1, .inl x1), (2, .inl x2), (3, .inl x3), (4, .inl x4), (5, .inr (.inl x5))]) rfl (by decide) (by decide) rfl dX8_weighWith_108 ?_
        refine J_goto (pc := 111) X (tgt := 62) dX8_weighWith_111 rfl ?_
        refine J_sub [1, 2, 3, 4, 5, 6, 0] rfl ?_
        exact hself _ _ _ hq
      · have hq := ite_f hq c17
        refine J_aload_n (pc := 97) X (j := 0) (i := 0) rfl rfl dX8_weighWith_97 ?_
        refine J_getF (pc := 98) X (b := 139) ly133 fl_8_31 rfl dX8_weighWith_98 ?_
        refine J_iload_n (pc := 101) X (j := 3) (i := 3) rfl rfl dX8_weighWith_101 ?_
        refine J_iload (pc := 102) X (j := 6) rfl dX8_weighWith_102 ?_
        refine J_iadd (pc := 104) X dX8_weighWith_104 ?_
        refine J_lload (pc := 105) X (j := 5) rfl dX8_weighWith_105 ?_
        obtain ⟨g18, hq⟩ := gd hq
        refine J_lastore (pc := 107) X ly139 g18 dX8_weighWith_107 ?_
        refine J_ltH hq (fun h19 hq => ?_)
        refine J_iinc (pc := 108) X (j := 6) (v := 1) (L' := [(7, .inl (x7 + 1)), (0, .inr (.inr 133)), (1, .inl x1), (2, .inl x2), (3, .inl x3), (4, .inl x4), (5, .inr (.inl x5))]) rfl (by decide) (by decide) rfl dX8_weighWith_108 ?_
        refine J_goto (pc := 111) X (tgt := 62) dX8_weighWith_111 rfl ?_
        refine J_sub [1, 2, 3, 4, 5, 6, 0] rfl ?_
        exact hself _ _ _ hq
theorem tL_X8_weighWith_62 {κ : Kx} (X : OK κ cX8_weighWith 8 (none) "StruckWords$Tear" 2) (x1 : Int32) (x2 : Int32) (x3 : Int32) (x4 : Int32) (x5 : Int64) (k114 : Hp → Option Hp) (N : Nat) (x7 : Int32) (h : Hp) (q : Hp) (hk114 : ∀ (h : Hp) (q : Hp), k114 h = some q → J κ 114 [(0, .inr (.inr 133)), (1, .inl x1), (2, .inl x2), (3, .inl x3), (4, .inl x4)] [] h (none, q)) (hq : itr2 (F_X8_weighWith_62 x1 x2 x3 x4 x5 k114) N x7 h = some q) : J κ 62 [(0, .inr (.inr 133)), (1, .inl x1), (2, .inl x2), (3, .inl x3), (4, .inl x4), (5, .inr (.inl x5)), (7, .inl x7)] [] h (none, q) :=
  itr2_ind (fun self hs x7 h q hq => tF_X8_weighWith_62 X x1 x2 x3 x4 x5 k114 self x7 h q hk114 hs hq) N x7 h q hq
theorem tF_X8_weighWith_8 {κ : Kx} (X : OK κ cX8_weighWith 8 (none) "StruckWords$Tear" 2) (x1 : Int32) (x2 : Int32) (x3 : Int32) (k120 : Hp → Option Hp) (self : Int32 → Hp → Option Hp) (x4 : Int32) (h : Hp) (q : Hp) (hk120 : ∀ (h : Hp) (q : Hp), k120 h = some q → J κ 120 [] [] h (none, q)) (hself : ∀ (x4 : Int32) (h : Hp) (q : Hp), self x4 h = some q → J κ 8 [(0, .inr (.inr 133)), (1, .inl x1), (2, .inl x2), (3, .inl x3), (4, .inl x4)] [] h (none, q)) (hq : F_X8_weighWith_8 x1 x2 x3 k120 self x4 h = some q) : J κ 8 [(0, .inr (.inr 133)), (1, .inl x1), (2, .inl x2), (3, .inl x3), (4, .inl x4)] [] h (none, q) := by
  delta F_X8_weighWith_8 at hq
  refine J_iload (pc := 8) X (j := 4) rfl dX8_weighWith_8 ?_
  refine J_aload_n (pc := 10) X (j := 0) (i := 0) rfl rfl dX8_weighWith_10 ?_
  refine J_getR (pc := 11) X ly133 fl_8_38 dX8_weighWith_11 ?_
  refine J_ltR hq (fun r2 hq => ?_)
  obtain ⟨g3, hq⟩ := gd hq
  refine J_getI (pc := 14) X (isO_lay g3) fl_8_112 dX8_weighWith_14 ?_
  refine J_icmp_ge (pc := 17) (tgt := 120) X dX8_weighWith_17 rfl (fun c4 => ?_) (fun c4 => ?_)
  · have hq := ite_t hq c4
    refine J_sub [] rfl ?_
    exact hk120 _ _ hq
  · have hq := ite_f hq c4
    refine J_aload_n (pc := 20) X (j := 0) (i := 0) rfl rfl dX8_weighWith_20 ?_
    refine J_getR (pc := 21) X ly133 fl_8_38 dX8_weighWith_21 ?_
    refine J_ltR hq (fun r5 hq => ?_)
    obtain ⟨g6, hq⟩ := gd hq
    refine J_iload_n (pc := 24) X (j := 2) (i := 2) rfl rfl dX8_weighWith_24 ?_
    refine J_iload (pc := 25) X (j := 4) rfl dX8_weighWith_25 ?_
    obtain ⟨v8, h7, hc, hq⟩ := bnd_e hq
    refine J_callV (pc := 27) (as := [.inl x2, .inl x4]) (st := []) (st2 := [.inl v8]) (r1 := (some (.inl v8), h7)) (h2 := h7) (ky := 1) X dX8_weighWith_27 ca_X10_readsAs ci_X10_readsAs cs_X10_readsAs ml_8_118 (by decide) (isO_lay g6) rfl rfl (m_X10_readsAs _ _ _ _ _ (isO_lay g6) hc) rfl rfl (Nat.le_of_ble_eq_true rfl) rfl rfl ?_
    refine J_if_eq (pc := 30) (tgt := 56) X dX8_weighWith_30 rfl (fun c9 => ?_) (fun c9 => ?_)
    · have hq := ite_t hq c9
      refine J_lconst (pc := 56) X (v := 0) (by decide) dX8_weighWith_56 ?_
      refine J_lstore (pc := 57) X (L' := [(5, .inr (.inl 0)), (0, .inr (.inr 133)), (1, .inl x1), (2, .inl x2), (3, .inl x3), (4, .inl x4)]) (by decide) rfl dX8_weighWith_57 ?_
      refine J_iconst (pc := 59) X (v := 0) (by decide) dX8_weighWith_59 ?_
      refine J_istore (pc := 60) X (L' := [(7, .inl 0), (5, .inr (.inl 0)), (0, .inr (.inr 133)), (1, .inl x1), (2, .inl x2), (3, .inl x3), (4, .inl x4)]) (by decide) rfl dX8_weighWith_60 ?_
      refine J_sub [2, 3, 4, 5, 6, 1, 0] rfl ?_
      refine tL_X8_weighWith_62 X _ _ _ _ _ _ N0 _ _ _ ?_ hq
      · intro h20 q hq
        refine J_iinc (pc := 114) X (j := 4) (v := 1) (L' := [(4, .inl (x4 + 1)), (0, .inr (.inr 133)), (1, .inl x1), (2, .inl x2), (3, .inl x3)]) rfl (by decide) (by decide) rfl dX8_weighWith_114 ?_
        refine J_goto (pc := 117) X (tgt := 8) dX8_weighWith_117 rfl ?_
        refine J_sub [1, 2, 3, 4, 0] rfl ?_
        exact hself _ _ _ hq
    · have hq := ite_f hq c9
      refine J_aload_n (pc := 33) X (j := 0) (i := 0) rfl rfl dX8_weighWith_33 ?_
      refine J_iload_n (pc := 34) X (j := 1) (i := 1) rfl rfl dX8_weighWith_34 ?_
      refine J_iload_n (pc := 35) X (j := 2) (i := 2) rfl rfl dX8_weighWith_35 ?_
      obtain ⟨v22, h21, hc, hq⟩ := bnd_e hq
      refine J_callV (pc := 36) (as := [.inl x1, .inl x2]) (st := []) (st2 := [.inr (.inl v22)]) (r1 := (some (.inr (.inl v22)), h21)) (h2 := h21) (ky := 1) X dX8_weighWith_36 ca_X8_weightAt ci_X8_weightAt cs_X8_weightAt ml_8_141 (by decide) ly133 rfl rfl (m_X8_weightAt _ _ _ _ hc) rfl rfl (Nat.le_of_ble_eq_true rfl) rfl rfl ?_
      refine J_aload_n (pc := 39) X (j := 0) (i := 0) rfl rfl dX8_weighWith_39 ?_
      refine J_getF (pc := 40) X (b := 139) ly133 fl_8_31 rfl dX8_weighWith_40 ?_
      refine J_iload_n (pc := 43) X (j := 3) (i := 3) rfl rfl dX8_weighWith_43 ?_
      refine J_iconst (pc := 44) X (v := 5) (by decide) dX8_weighWith_44 ?_
      refine J_iadd (pc := 45) X dX8_weighWith_45 ?_
      refine J_iconst (pc := 46) X (v := 1) (by decide) dX8_weighWith_46 ?_
      refine J_iadd (pc := 47) X dX8_weighWith_47 ?_
      refine J_iload (pc := 48) X (j := 4) rfl dX8_weighWith_48 ?_
      refine J_iadd (pc := 50) X dX8_weighWith_50 ?_
      obtain ⟨g23, hq⟩ := gd hq
      refine J_laload (pc := 51) X ly139 g23 dX8_weighWith_51 ?_
      refine J_lmul (pc := 52) X dX8_weighWith_52 ?_
      refine J_goto (pc := 53) X (tgt := 57) dX8_weighWith_53 rfl ?_
      refine J_ltL hq (fun v24 hq => ?_)
      refine J_lstore (pc := 57) X (L' := [(5, .inr (.inl v24)), (0, .inr (.inr 133)), (1, .inl x1), (2, .inl x2), (3, .inl x3), (4, .inl x4)]) (by decide) rfl dX8_weighWith_57 ?_
      refine J_iconst (pc := 59) X (v := 0) (by decide) dX8_weighWith_59 ?_
      refine J_istore (pc := 60) X (L' := [(7, .inl 0), (5, .inr (.inl v24)), (0, .inr (.inr 133)), (1, .inl x1), (2, .inl x2), (3, .inl x3), (4, .inl x4)]) (by decide) rfl dX8_weighWith_60 ?_
      refine J_sub [2, 3, 4, 5, 6, 1, 0] rfl ?_
      refine tL_X8_weighWith_62 X _ _ _ _ _ _ N0 _ _ _ ?_ hq
      · intro h25 q hq
        refine J_iinc (pc := 114) X (j := 4) (v := 1) (L' := [(4, .inl (x4 + 1)), (0, .inr (.inr 133)), (1, .inl x1), (2, .inl x2), (3, .inl x3)]) rfl (by decide) (by decide) rfl dX8_weighWith_114 ?_
        refine J_goto (pc := 117) X (tgt := 8) dX8_weighWith_117 rfl ?_
        refine J_sub [1, 2, 3, 4, 0] rfl ?_
        exact hself _ _ _ hq
theorem tL_X8_weighWith_8 {κ : Kx} (X : OK κ cX8_weighWith 8 (none) "StruckWords$Tear" 2) (x1 : Int32) (x2 : Int32) (x3 : Int32) (k120 : Hp → Option Hp) (N : Nat) (x4 : Int32) (h : Hp) (q : Hp) (hk120 : ∀ (h : Hp) (q : Hp), k120 h = some q → J κ 120 [] [] h (none, q)) (hq : itr2 (F_X8_weighWith_8 x1 x2 x3 k120) N x4 h = some q) : J κ 8 [(0, .inr (.inr 133)), (1, .inl x1), (2, .inl x2), (3, .inl x3), (4, .inl x4)] [] h (none, q) :=
  itr2_ind (fun self hs x4 h q hq => tF_X8_weighWith_8 X x1 x2 x3 k120 self x4 h q hk120 hs hq) N x4 h q hq
theorem tf_X8_weighWith {κ : Kx} (X : OK κ cX8_weighWith 8 (none) "StruckWords$Tear" 2) (x1 : Int32) (x2 : Int32) (h : Hp) (q : Hp) (hq : f_X8_weighWith x1 x2 h = some q) : J κ 0 [(0, .inr (.inr 133)), (1, .inl x1), (2, .inl x2)] [] h (none, q) := by
  delta f_X8_weighWith at hq
  refine J_iload_n (pc := 0) X (j := 1) (i := 1) rfl rfl dX8_weighWith_0 ?_
  refine J_bipush (pc := 1) X (v := 6) (by decide) dX8_weighWith_1 ?_
  refine J_imul (pc := 3) X dX8_weighWith_3 ?_
  refine J_ltI hq (fun v1 hq => ?_)
  refine J_istore_n (pc := 4) X (L' := [(3, .inl v1), (0, .inr (.inr 133)), (1, .inl x1), (2, .inl x2)]) (i := 3) rfl (by decide) rfl dX8_weighWith_4 ?_
  refine J_iconst (pc := 5) X (v := 0) (by decide) dX8_weighWith_5 ?_
  refine J_istore (pc := 6) X (L' := [(4, .inl 0), (3, .inl v1), (0, .inr (.inr 133)), (1, .inl x1), (2, .inl x2)]) (by decide) rfl dX8_weighWith_6 ?_
  refine J_sub [2, 3, 4, 1, 0] rfl ?_
  refine tL_X8_weighWith_8 X _ _ _ _ N0 _ _ _ ?_ hq
  · intro h26 q hq
    obtain rfl := Option.some.inj hq
    exact J_vret (pc := 120) X dX8_weighWith_120
theorem m_X8_weighWith (x1 : Int32) (x2 : Int32) (h : Hp) (q : Hp) (hq : f_X8_weighWith x1 x2 h = some q) : ∀ l w, CT l w yX8_weighWith cX8_weighWith 8 (none) 2 [.inr (.inr 133), .inl x1, .inl x2] h (none, q) :=
  CT_of (L0 := [(0, .inr (.inr 133)), (1, .inl x1), (2, .inl x2)]) (by decide) rfl (Nat.le_of_ble_eq_true rfl) (fun κ X => tf_X8_weighWith X x1 x2 h q  hq)
theorem tB_X8_weighAll_50 {κ : Kx} (X : OK κ cX8_weighAll 3 (none) "StruckWords$Tear" 3) (k57 : Hp → Option Hp) (self : Int32 → Hp → Option Hp) (x1 : Int32) (t0 : Int64) (t1 : Int32) (h : Hp) (q : Hp) (hk57 : ∀ (h : Hp) (q : Hp), k57 h = some q → J κ 57 [(0, .inr (.inr 133))] [] h (none, q)) (hself : ∀ (x1 : Int32) (h : Hp) (q : Hp), self x1 h = some q → J κ 10 [(0, .inr (.inr 133)), (1, .inl x1)] [] h (none, q)) (hq : B_X8_weighAll_50 k57 self x1 t0 t1 h = some q) : J κ 50 [(0, .inr (.inr 133)), (1, .inl x1)] [.inr (.inl t0), .inl t1, .inr (.inr 139)] h (none, q) := by
  delta B_X8_weighAll_50 at hq
  obtain ⟨g10, hq⟩ := gd hq
  refine J_lastore (pc := 50) X ly139 g10 dX8_weighAll_50 ?_
  refine J_ltH hq (fun h11 hq => ?_)
  refine J_iinc (pc := 51) X (j := 1) (v := 1) (L' := [(1, .inl (x1 + 1)), (0, .inr (.inr 133))]) rfl (by decide) (by decide) rfl dX8_weighAll_51 ?_
  refine J_goto (pc := 54) X (tgt := 10) dX8_weighAll_54 rfl ?_
  refine J_sub [1, 0] rfl ?_
  exact hself _ _ _ hq
theorem tF_X8_weighAll_10 {κ : Kx} (X : OK κ cX8_weighAll 3 (none) "StruckWords$Tear" 3) (k57 : Hp → Option Hp) (self : Int32 → Hp → Option Hp) (x1 : Int32) (h : Hp) (q : Hp) (hk57 : ∀ (h : Hp) (q : Hp), k57 h = some q → J κ 57 [(0, .inr (.inr 133))] [] h (none, q)) (hself : ∀ (x1 : Int32) (h : Hp) (q : Hp), self x1 h = some q → J κ 10 [(0, .inr (.inr 133)), (1, .inl x1)] [] h (none, q)) (hq : F_X8_weighAll_10 k57 self x1 h = some q) : J κ 10 [(0, .inr (.inr 133)), (1, .inl x1)] [] h (none, q) := by
  delta F_X8_weighAll_10 at hq
  refine J_iload_n (pc := 10) X (j := 1) (i := 1) rfl rfl dX8_weighAll_10 ?_
  refine J_aload_n (pc := 11) X (j := 0) (i := 0) rfl rfl dX8_weighAll_11 ?_
  refine J_getR (pc := 12) X ly133 fl_8_38 dX8_weighAll_12 ?_
  refine J_ltR hq (fun r2 hq => ?_)
  obtain ⟨g3, hq⟩ := gd hq
  refine J_getI (pc := 15) X (isO_lay g3) fl_8_112 dX8_weighAll_15 ?_
  refine J_icmp_ge (pc := 18) (tgt := 57) X dX8_weighAll_18 rfl (fun c4 => ?_) (fun c4 => ?_)
  · have hq := ite_t hq c4
    refine J_sub [0] rfl ?_
    exact hk57 _ _ hq
  · have hq := ite_f hq c4
    refine J_aload_n (pc := 21) X (j := 0) (i := 0) rfl rfl dX8_weighAll_21 ?_
    refine J_getF (pc := 22) X (b := 139) ly133 fl_8_31 rfl dX8_weighAll_22 ?_
    refine J_aload_n (pc := 25) X (j := 0) (i := 0) rfl rfl dX8_weighAll_25 ?_
    refine J_getI (pc := 26) X ly133 fl_8_48 dX8_weighAll_26 ?_
    refine J_bipush (pc := 29) X (v := 6) (by decide) dX8_weighAll_29 ?_
    refine J_imul (pc := 31) X dX8_weighAll_31 ?_
    refine J_iload_n (pc := 32) X (j := 1) (i := 1) rfl rfl dX8_weighAll_32 ?_
    refine J_iadd (pc := 33) X dX8_weighAll_33 ?_
    refine J_aload_n (pc := 34) X (j := 0) (i := 0) rfl rfl dX8_weighAll_34 ?_
    refine J_getR (pc := 35) X ly133 fl_8_38 dX8_weighAll_35 ?_
    refine J_ltR hq (fun r5 hq => ?_)
    obtain ⟨g6, hq⟩ := gd hq
    refine J_iload_n (pc := 38) X (j := 1) (i := 1) rfl rfl dX8_weighAll_38 ?_
    obtain ⟨v8, h7, hc, hq⟩ := bnd_e hq
    refine J_callV (pc := 39) (as := [.inl x1]) (st := [.inl (((h.1 133 9) * 6) + x1), .inr (.inr 139)]) (st2 := [.inl v8, .inl (((h.1 133 9) * 6) + x1), .inr (.inr 139)]) (r1 := (some (.inl v8), h7)) (h2 := h7) (ky := 1) X dX8_weighAll_39 ca_X10_mayEnd ci_X10_mayEnd cs_X10_mayEnd ml_8_108 (by decide) (isO_lay g6) rfl rfl (m_X10_mayEnd _ _ _ _ (isO_lay g6) hc) rfl rfl (Nat.le_of_ble_eq_true rfl) rfl rfl ?_
    refine J_if_eq (pc := 42) (tgt := 49) X dX8_weighAll_42 rfl (fun c9 => ?_) (fun c9 => ?_)
    · have hq := ite_t hq c9
      refine J_lconst (pc := 49) X (v := 0) (by decide) dX8_weighAll_49 ?_
      exact tB_X8_weighAll_50 X _ _ _ _ _ _ _ hk57 hself hq
    · have hq := ite_f hq c9
      refine J_lconst (pc := 45) X (v := 1) (by decide) dX8_weighAll_45 ?_
      refine J_goto (pc := 46) X (tgt := 50) dX8_weighAll_46 rfl ?_
      exact tB_X8_weighAll_50 X _ _ _ _ _ _ _ hk57 hself hq
theorem tL_X8_weighAll_10 {κ : Kx} (X : OK κ cX8_weighAll 3 (none) "StruckWords$Tear" 3) (k57 : Hp → Option Hp) (N : Nat) (x1 : Int32) (h : Hp) (q : Hp) (hk57 : ∀ (h : Hp) (q : Hp), k57 h = some q → J κ 57 [(0, .inr (.inr 133))] [] h (none, q)) (hq : itr2 (F_X8_weighAll_10 k57) N x1 h = some q) : J κ 10 [(0, .inr (.inr 133)), (1, .inl x1)] [] h (none, q) :=
  itr2_ind (fun self hs x1 h q hq => tF_X8_weighAll_10 X k57 self x1 h q hk57 hs hq) N x1 h q hq
theorem tF_X8_weighAll_70 {κ : Kx} (X : OK κ cX8_weighAll 3 (none) "StruckWords$Tear" 3) (x1 : Int32) (k102 : Hp → Option Hp) (self : Int32 → Hp → Option Hp) (x2 : Int32) (h : Hp) (q : Hp) (hk102 : ∀ (h : Hp) (q : Hp), k102 h = some q → J κ 102 [(0, .inr (.inr 133)), (1, .inl x1)] [] h (none, q)) (hself : ∀ (x2 : Int32) (h : Hp) (q : Hp), self x2 h = some q → J κ 70 [(0, .inr (.inr 133)), (1, .inl x1), (2, .inl x2)] [] h (none, q)) (hq : F_X8_weighAll_70 x1 k102 self x2 h = some q) : J κ 70 [(0, .inr (.inr 133)), (1, .inl x1), (2, .inl x2)] [] h (none, q) := by
  delta F_X8_weighAll_70 at hq
  refine J_iload_n (pc := 70) X (j := 2) (i := 2) rfl rfl dX8_weighAll_70 ?_
  refine J_aload_n (pc := 71) X (j := 0) (i := 0) rfl rfl dX8_weighAll_71 ?_
  refine J_getR (pc := 72) X ly133 fl_8_38 dX8_weighAll_72 ?_
  refine J_ltR hq (fun r15 hq => ?_)
  obtain ⟨g16, hq⟩ := gd hq
  refine J_getI (pc := 75) X (isO_lay g16) fl_8_93 dX8_weighAll_75 ?_
  refine J_icmp_ge (pc := 78) (tgt := 102) X dX8_weighAll_78 rfl (fun c17 => ?_) (fun c17 => ?_)
  · have hq := ite_t hq c17
    refine J_sub [0, 1] rfl ?_
    exact hk102 _ _ hq
  · have hq := ite_f hq c17
    refine J_aload_n (pc := 81) X (j := 0) (i := 0) rfl rfl dX8_weighAll_81 ?_
    refine J_iload_n (pc := 82) X (j := 1) (i := 1) rfl rfl dX8_weighAll_82 ?_
    refine J_iload_n (pc := 83) X (j := 2) (i := 2) rfl rfl dX8_weighAll_83 ?_
    obtain ⟨v19, h18, hc, hq⟩ := bnd_e hq
    refine J_callV (pc := 84) (as := [.inl x1, .inl x2]) (st := []) (st2 := [.inl v19]) (r1 := (some (.inl v19), h18)) (h2 := h18) (ky := 1) X dX8_weighAll_84 ca_X8_mayStandAt ci_X8_mayStandAt cs_X8_mayStandAt ml_8_96 (by decide) ly133 rfl rfl (m_X8_mayStandAt _ _ _ _ hc) rfl rfl (Nat.le_of_ble_eq_true rfl) rfl rfl ?_
    refine J_if_eq (pc := 87) (tgt := 96) X dX8_weighAll_87 rfl (fun c20 => ?_) (fun c20 => ?_)
    · have hq := ite_t hq c20
      refine J_iinc (pc := 96) X (j := 2) (v := 1) (L' := [(2, .inl (x2 + 1)), (0, .inr (.inr 133)), (1, .inl x1)]) rfl (by decide) (by decide) rfl dX8_weighAll_96 ?_
      refine J_goto (pc := 99) X (tgt := 70) dX8_weighAll_99 rfl ?_
      refine J_sub [1, 2, 0] rfl ?_
      exact hself _ _ _ hq
    · have hq := ite_f hq c20
      refine J_aload_n (pc := 90) X (j := 0) (i := 0) rfl rfl dX8_weighAll_90 ?_
      refine J_iload_n (pc := 91) X (j := 1) (i := 1) rfl rfl dX8_weighAll_91 ?_
      refine J_iload_n (pc := 92) X (j := 2) (i := 2) rfl rfl dX8_weighAll_92 ?_
      obtain ⟨h21, hc, hq⟩ := bnv_e hq
      refine J_callV (pc := 93) (as := [.inl x1, .inl x2]) (st := []) (st2 := []) (r1 := (none, h21)) (h2 := h21) (ky := 2) X dX8_weighAll_93 ca_X8_weighWith ci_X8_weighWith cs_X8_weighWith ml_8_137 (by decide) ly133 rfl rfl (m_X8_weighWith _ _ _ _ hc) rfl rfl (Nat.le_of_ble_eq_true rfl) rfl rfl ?_
      refine J_iinc (pc := 96) X (j := 2) (v := 1) (L' := [(2, .inl (x2 + 1)), (0, .inr (.inr 133)), (1, .inl x1)]) rfl (by decide) (by decide) rfl dX8_weighAll_96 ?_
      refine J_goto (pc := 99) X (tgt := 70) dX8_weighAll_99 rfl ?_
      refine J_sub [1, 2, 0] rfl ?_
      exact hself _ _ _ hq
theorem tL_X8_weighAll_70 {κ : Kx} (X : OK κ cX8_weighAll 3 (none) "StruckWords$Tear" 3) (x1 : Int32) (k102 : Hp → Option Hp) (N : Nat) (x2 : Int32) (h : Hp) (q : Hp) (hk102 : ∀ (h : Hp) (q : Hp), k102 h = some q → J κ 102 [(0, .inr (.inr 133)), (1, .inl x1)] [] h (none, q)) (hq : itr2 (F_X8_weighAll_70 x1 k102) N x2 h = some q) : J κ 70 [(0, .inr (.inr 133)), (1, .inl x1), (2, .inl x2)] [] h (none, q) :=
  itr2_ind (fun self hs x2 h q hq => tF_X8_weighAll_70 X x1 k102 self x2 h q hk102 hs hq) N x2 h q hq
theorem tF_X8_weighAll_64 {κ : Kx} (X : OK κ cX8_weighAll 3 (none) "StruckWords$Tear" 3) (k108 : Hp → Option Hp) (self : Int32 → Hp → Option Hp) (x1 : Int32) (h : Hp) (q : Hp) (hk108 : ∀ (h : Hp) (q : Hp), k108 h = some q → J κ 108 [] [] h (none, q)) (hself : ∀ (x1 : Int32) (h : Hp) (q : Hp), self x1 h = some q → J κ 64 [(0, .inr (.inr 133)), (1, .inl x1)] [] h (none, q)) (hq : F_X8_weighAll_64 k108 self x1 h = some q) : J κ 64 [(0, .inr (.inr 133)), (1, .inl x1)] [] h (none, q) := by
  delta F_X8_weighAll_64 at hq
  refine J_iload_n (pc := 64) X (j := 1) (i := 1) rfl rfl dX8_weighAll_64 ?_
  refine J_if_lt (pc := 65) (tgt := 108) X dX8_weighAll_65 rfl (fun c14 => ?_) (fun c14 => ?_)
  · have hq := ite_t hq c14
    refine J_sub [] rfl ?_
    exact hk108 _ _ hq
  · have hq := ite_f hq c14
    refine J_iconst (pc := 68) X (v := 0) (by decide) dX8_weighAll_68 ?_
    refine J_istore_n (pc := 69) X (L' := [(2, .inl 0), (0, .inr (.inr 133)), (1, .inl x1)]) (i := 2) rfl (by decide) rfl dX8_weighAll_69 ?_
    refine J_sub [1, 2, 0] rfl ?_
    refine tL_X8_weighAll_70 X _ _ N0 _ _ _ ?_ hq
    · intro h22 q hq
      refine J_iinc (pc := 102) X (j := 1) (v := (-1)) (L' := [(1, .inl (x1 + (-1))), (0, .inr (.inr 133))]) rfl (by decide) (by decide) rfl dX8_weighAll_102 ?_
      refine J_goto (pc := 105) X (tgt := 64) dX8_weighAll_105 rfl ?_
      refine J_sub [1, 0] rfl ?_
      exact hself _ _ _ hq
theorem tL_X8_weighAll_64 {κ : Kx} (X : OK κ cX8_weighAll 3 (none) "StruckWords$Tear" 3) (k108 : Hp → Option Hp) (N : Nat) (x1 : Int32) (h : Hp) (q : Hp) (hk108 : ∀ (h : Hp) (q : Hp), k108 h = some q → J κ 108 [] [] h (none, q)) (hq : itr2 (F_X8_weighAll_64 k108) N x1 h = some q) : J κ 64 [(0, .inr (.inr 133)), (1, .inl x1)] [] h (none, q) :=
  itr2_ind (fun self hs x1 h q hq => tF_X8_weighAll_64 X k108 self x1 h q hk108 hs hq) N x1 h q hq
theorem tf_X8_weighAll {κ : Kx} (X : OK κ cX8_weighAll 3 (none) "StruckWords$Tear" 3) (h : Hp) (q : Hp) (hq : f_X8_weighAll h = some q) : J κ 0 [(0, .inr (.inr 133))] [] h (none, q) := by
  delta f_X8_weighAll at hq
  refine J_aload_n (pc := 0) X (j := 0) (i := 0) rfl rfl dX8_weighAll_0 ?_
  refine J_getF (pc := 1) X (b := 139) ly133 fl_8_31 rfl dX8_weighAll_1 ?_
  refine J_lconst (pc := 4) X (v := 0) (by decide) dX8_weighAll_4 ?_
  obtain ⟨h1, hc, hq⟩ := bnv_e hq
  refine J_callS (pc := 5) (as := [.inr (.inr 139), .inr (.inl 0)]) (st := []) (st2 := []) (r1 := (none, h1)) (h2 := h1) (ky := 1) X dX8_weighAll_5 ca_J7_fill_d0a16 cz_J7_fill_d0a16 ml_8_84 (by decide) (m_J7_fill_d0a16 _ _ _ _ (aln_of ly139) hc) rfl rfl (Nat.le_of_ble_eq_true rfl) rfl rfl ?_
  refine J_iconst (pc := 8) X (v := 0) (by decide) dX8_weighAll_8 ?_
  refine J_istore_n (pc := 9) X (L' := [(1, .inl 0), (0, .inr (.inr 133))]) (i := 1) rfl (by decide) rfl dX8_weighAll_9 ?_
  refine J_sub [1, 0] rfl ?_
  refine tL_X8_weighAll_10 X _ N0 _ _ _ ?_ hq
  · intro h12 q hq
    refine J_aload_n (pc := 57) X (j := 0) (i := 0) rfl rfl dX8_weighAll_57 ?_
    refine J_getI (pc := 58) X ly133 fl_8_48 dX8_weighAll_58 ?_
    refine J_iconst (pc := 61) X (v := 1) (by decide) dX8_weighAll_61 ?_
    refine J_isub (pc := 62) X dX8_weighAll_62 ?_
    refine J_ltI hq (fun v13 hq => ?_)
    refine J_istore_n (pc := 63) X (L' := [(1, .inl v13), (0, .inr (.inr 133))]) (i := 1) rfl (by decide) rfl dX8_weighAll_63 ?_
    refine J_sub [1, 0] rfl ?_
    refine tL_X8_weighAll_64 X _ N0 _ _ _ ?_ hq
    · intro h23 q hq
      obtain rfl := Option.some.inj hq
      exact J_vret (pc := 108) X dX8_weighAll_108
theorem m_X8_weighAll (h : Hp) (q : Hp) (hq : f_X8_weighAll  h = some q) : ∀ l w, CT l w yX8_weighAll cX8_weighAll 3 (none) 3 [.inr (.inr 133)] h (none, q) :=
  CT_of (L0 := [(0, .inr (.inr 133))]) (by decide) rfl (Nat.le_of_ble_eq_true rfl) (fun κ X => tf_X8_weighAll X  h q  hq)
theorem tB_X8_look_74 {κ : Kx} (X : OK κ cX8_look 8 (none) "StruckWords$Tear" 5) (x2 : Nat) (x3 : Int32) (k96 : Hp → Option Hp) (self : Int32 → Int32 → Hp → Option Hp) (x5 : Int32) (x6 : Int32) (x7 : Int32) (t0 : Int32) (t1 : Int32) (h : Hp) (q : Hp) (lx2 : lay x2 = some (.inl 5)) (hk96 : ∀ (h : Hp) (q : Hp), k96 h = some q → J κ 96 [(0, .inr (.inr 133))] [] h (none, q)) (hself : ∀ (x5 : Int32) (x6 : Int32) (h : Hp) (q : Hp), self x5 x6 h = some q → J κ 27 [(0, .inr (.inr 133)), (2, .inr (.inr x2)), (3, .inl x3), (5, .inl x5), (6, .inl x6)] [] h (none, q)) (hq : B_X8_look_74 x2 x3 k96 self x5 x6 x7 t0 t1 h = some q) : J κ 74 [(0, .inr (.inr 133)), (2, .inr (.inr x2)), (3, .inl x3), (5, .inl x5), (6, .inl x6), (7, .inl x7)] [.inl t0, .inl t1, .inr (.inr 136)] h (none, q) := by
  delta B_X8_look_74 at hq
  obtain ⟨g12, hq⟩ := gd hq
  refine J_iastore (pc := 74) X ly136 g12 dX8_look_74 ?_
  refine J_ltH hq (fun h13 hq => ?_)
  refine J_iload (pc := 75) X (j := 3) rfl dX8_look_75 ?_
  refine J_iload (pc := 77) X (j := 5) rfl dX8_look_77 ?_
  refine J_if_eq (pc := 79) (tgt := 86) X dX8_look_79 rfl (fun c14 => ?_) (fun c14 => ?_)
  · have hq := ite_t hq c14
    refine J_iconst (pc := 86) X (v := 1) (by decide) dX8_look_86 ?_
    refine J_iadd (pc := 87) X dX8_look_87 ?_
    refine J_istore (pc := 88) X (L' := [(5, .inl (x5 + 1)), (0, .inr (.inr 133)), (2, .inr (.inr x2)), (3, .inl x3), (6, .inl x6), (7, .inl x7)]) (by decide) rfl dX8_look_88 ?_
    refine J_iinc (pc := 90) X (j := 4) (v := 1) (L' := [(6, .inl (x6 + 1)), (5, .inl (x5 + 1)), (0, .inr (.inr 133)), (2, .inr (.inr x2)), (3, .inl x3), (7, .inl x7)]) rfl (by decide) (by decide) rfl dX8_look_90 ?_
    refine J_goto (pc := 93) X (tgt := 27) dX8_look_93 rfl ?_
    refine J_sub [2, 3, 4, 1, 0] rfl ?_
    exact hself _ _ _ _ hq
  · have hq := ite_f hq c14
    refine J_iconst (pc := 82) X (v := 0) (by decide) dX8_look_82 ?_
    refine J_goto (pc := 83) X (tgt := 87) dX8_look_83 rfl ?_
    refine J_iadd (pc := 87) X dX8_look_87 ?_
    refine J_istore (pc := 88) X (L' := [(5, .inl (x5 + 0)), (0, .inr (.inr 133)), (2, .inr (.inr x2)), (3, .inl x3), (6, .inl x6), (7, .inl x7)]) (by decide) rfl dX8_look_88 ?_
    refine J_iinc (pc := 90) X (j := 4) (v := 1) (L' := [(6, .inl (x6 + 1)), (5, .inl (x5 + 0)), (0, .inr (.inr 133)), (2, .inr (.inr x2)), (3, .inl x3), (7, .inl x7)]) rfl (by decide) (by decide) rfl dX8_look_90 ?_
    refine J_goto (pc := 93) X (tgt := 27) dX8_look_93 rfl ?_
    refine J_sub [2, 3, 4, 1, 0] rfl ?_
    exact hself _ _ _ _ hq
theorem tF_X8_look_27 {κ : Kx} (X : OK κ cX8_look 8 (none) "StruckWords$Tear" 5) (x2 : Nat) (x3 : Int32) (k96 : Hp → Option Hp) (self : Int32 → Int32 → Hp → Option Hp) (x5 : Int32) (x6 : Int32) (h : Hp) (q : Hp) (lx2 : lay x2 = some (.inl 5)) (hk96 : ∀ (h : Hp) (q : Hp), k96 h = some q → J κ 96 [(0, .inr (.inr 133))] [] h (none, q)) (hself : ∀ (x5 : Int32) (x6 : Int32) (h : Hp) (q : Hp), self x5 x6 h = some q → J κ 27 [(0, .inr (.inr 133)), (2, .inr (.inr x2)), (3, .inl x3), (5, .inl x5), (6, .inl x6)] [] h (none, q)) (hq : F_X8_look_27 x2 x3 k96 self x5 x6 h = some q) : J κ 27 [(0, .inr (.inr 133)), (2, .inr (.inr x2)), (3, .inl x3), (5, .inl x5), (6, .inl x6)] [] h (none, q) := by
  delta F_X8_look_27 at hq
  refine J_iload (pc := 27) X (j := 4) rfl dX8_look_27 ?_
  refine J_aload_n (pc := 29) X (j := 0) (i := 0) rfl rfl dX8_look_29 ?_
  refine J_getI (pc := 30) X ly133 fl_8_48 dX8_look_30 ?_
  refine J_icmp_ge (pc := 33) (tgt := 96) X dX8_look_33 rfl (fun c4 => ?_) (fun c4 => ?_)
  · have hq := ite_t hq c4
    refine J_sub [0] rfl ?_
    exact hk96 _ _ hq
  · have hq := ite_f hq c4
    refine J_aload_n (pc := 36) X (j := 0) (i := 0) rfl rfl dX8_look_36 ?_
    refine J_getR (pc := 37) X ly133 fl_8_38 dX8_look_37 ?_
    refine J_ltR hq (fun r5 hq => ?_)
    obtain ⟨g6, hq⟩ := gd hq
    refine J_getF (pc := 40) X (b := r5 + 2) (isO_lay g6) fl_8_52 rfl dX8_look_40 ?_
    refine J_iload_n (pc := 43) X (j := 2) (i := 3) rfl rfl dX8_look_43 ?_
    refine J_iload (pc := 44) X (j := 4) rfl dX8_look_44 ?_
    refine J_iconst (pc := 46) X (v := 1) (by decide) dX8_look_46 ?_
    refine J_iadd (pc := 47) X dX8_look_47 ?_
    obtain ⟨v8, h7, hc, hq⟩ := bnd_e hq
    refine J_callV (pc := 48) (as := [.inl x3, .inl (x6 + 1)]) (st := []) (st2 := [.inl v8]) (r1 := (some (.inl v8), h7)) (h2 := h7) (ky := 1) X dX8_look_48 ca_X1_strikes ci_X1_strikes cs_X1_strikes ml_8_58 (by decide) (ly_8_2 (isO_lay g6)) rfl rfl (m_X1_strikes _ _ _ _ _ (ly_8_2 (isO_lay g6)) hc) rfl rfl (Nat.le_of_ble_eq_true rfl) rfl rfl ?_
    refine J_istore (pc := 51) X (L' := [(7, .inl v8), (0, .inr (.inr 133)), (2, .inr (.inr x2)), (3, .inl x3), (5, .inl x5), (6, .inl x6)]) (by decide) rfl dX8_look_51 ?_
    refine J_aload_n (pc := 53) X (j := 1) (i := 0) rfl rfl dX8_look_53 ?_
    refine J_getF (pc := 54) X (b := 136) ly133 fl_8_20 rfl dX8_look_54 ?_
    refine J_iload (pc := 57) X (j := 5) rfl dX8_look_57 ?_
    refine J_iload (pc := 59) X (j := 0) rfl dX8_look_59 ?_
    refine J_if_eq (pc := 61) (tgt := 68) X dX8_look_61 rfl (fun c9 => ?_) (fun c9 => ?_)
    · have hq := ite_t hq c9
      refine J_aload_n (pc := 68) X (j := 2) (i := 2) rfl rfl dX8_look_68 ?_
      refine J_iload (pc := 69) X (j := 4) rfl dX8_look_69 ?_
      obtain ⟨v11, h10, hc, hq⟩ := bnd_e hq
      refine J_callV (pc := 71) (as := [.inl x5]) (st := [.inl x6, .inr (.inr 136)]) (st2 := [.inl v11, .inl x6, .inr (.inr 136)]) (r1 := (some (.inl v11), h10)) (h2 := h10) (ky := 1) X dX8_look_71 ca_X7_atOrNone ci_X7_atOrNone cs_X7_atOrNone ml_8_64 (by decide) lx2 rfl rfl (m_X7_atOrNone _ _ _ _ lx2 hc) rfl rfl (Nat.le_of_ble_eq_true rfl) rfl rfl ?_
      refine J_sub [1, 2, 3, 4, 5, 0] rfl ?_
      exact tB_X8_look_74 X _ _ _ _ _ _ _ _ _ _ _ lx2 hk96 hself hq
    · have hq := ite_f hq c9
      refine J_iconst (pc := 64) X (v := (-1)) (by decide) dX8_look_64 ?_
      refine J_goto (pc := 65) X (tgt := 74) dX8_look_65 rfl ?_
      refine J_sub [1, 2, 3, 4, 5, 0] rfl ?_
      exact tB_X8_look_74 X _ _ _ _ _ _ _ _ _ _ _ lx2 hk96 hself hq
theorem tL_X8_look_27 {κ : Kx} (X : OK κ cX8_look 8 (none) "StruckWords$Tear" 5) (x2 : Nat) (x3 : Int32) (k96 : Hp → Option Hp) (N : Nat) (x5 : Int32) (x6 : Int32) (h : Hp) (q : Hp) (lx2 : lay x2 = some (.inl 5)) (hk96 : ∀ (h : Hp) (q : Hp), k96 h = some q → J κ 96 [(0, .inr (.inr 133))] [] h (none, q)) (hq : itr3 (F_X8_look_27 x2 x3 k96) N x5 x6 h = some q) : J κ 27 [(0, .inr (.inr 133)), (2, .inr (.inr x2)), (3, .inl x3), (5, .inl x5), (6, .inl x6)] [] h (none, q) :=
  itr3_ind (fun self hs x5 x6 h q hq => tF_X8_look_27 X x2 x3 k96 self x5 x6 h q lx2 hk96 hs hq) N x5 x6 h q hq
theorem tf_X8_look {κ : Kx} (X : OK κ cX8_look 8 (none) "StruckWords$Tear" 5) (x1 : Nat) (x2 : Nat) (x3 : Int32) (x4 : Int32) (h : Hp) (q : Hp) (lx1 : lay x1 = some (.inl 8)) (lx2 : lay x2 = some (.inl 5)) (hq : f_X8_look x1 x2 x3 x4 h = some q) : J κ 0 [(0, .inr (.inr 133)), (1, .inr (.inr x1)), (2, .inr (.inr x2)), (3, .inl x3), (4, .inl x4)] [] h (none, q) := by
  delta f_X8_look at hq
  refine J_aload_n (pc := 0) X (j := 0) (i := 0) rfl rfl dX8_look_0 ?_
  refine J_iconst (pc := 1) X (v := 1) (by decide) dX8_look_1 ?_
  refine J_putZ (pc := 2) X ly133 fp_8_34 (by decide) dX8_look_2 ?_
  refine J_ltH hq (fun h1 hq => ?_)
  refine J_aload_n (pc := 5) X (j := 0) (i := 0) rfl rfl dX8_look_5 ?_
  refine J_aload_n (pc := 6) X (j := 1) (i := 1) rfl rfl dX8_look_6 ?_
  refine J_putR (pc := 7) X ly133 fp_8_38 dX8_look_7 ?_
  refine J_ltH hq (fun h2 hq => ?_)
  refine J_aload_n (pc := 10) X (j := 0) (i := 0) rfl rfl dX8_look_10 ?_
  refine J_iload (pc := 11) X (j := 4) rfl dX8_look_11 ?_
  refine J_bipush (pc := 13) X (v := 12) (by decide) dX8_look_13 ?_
  refine J_mmin (pc := 15) X ml_8_42 dX8_look_15 (Nat.le_of_ble_eq_true rfl) ?_
  refine J_putI (pc := 18) X ly133 fp_8_48 dX8_look_18 ?_
  refine J_ltH hq (fun h3 hq => ?_)
  refine J_iconst (pc := 21) X (v := 0) (by decide) dX8_look_21 ?_
  refine J_istore (pc := 22) X (L' := [(5, .inl 0), (0, .inr (.inr 133)), (1, .inr (.inr x1)), (2, .inr (.inr x2)), (3, .inl x3), (4, .inl x4)]) (by decide) rfl dX8_look_22 ?_
  refine J_iconst (pc := 24) X (v := 0) (by decide) dX8_look_24 ?_
  refine J_istore (pc := 25) X (L' := [(6, .inl 0), (5, .inl 0), (0, .inr (.inr 133)), (1, .inr (.inr x1)), (2, .inr (.inr x2)), (3, .inl x3), (4, .inl x4)]) (by decide) rfl dX8_look_25 ?_
  refine J_sub [2, 4, 5, 1, 0] rfl ?_
  refine tL_X8_look_27 X _ _ _ N0 _ _ _ _ lx2 ?_ hq
  · intro h15 q hq
    refine J_aload_n (pc := 96) X (j := 0) (i := 0) rfl rfl dX8_look_96 ?_
    obtain ⟨h16, hc, hq⟩ := bnv_e hq
    refine J_callV (pc := 97) (as := []) (st := []) (st2 := []) (r1 := (none, h16)) (h2 := h16) (ky := 3) X dX8_look_97 ca_X8_countAll ci_X8_countAll cs_X8_countAll ml_8_68 (by decide) ly133 rfl rfl (m_X8_countAll _ _ hc) rfl rfl (Nat.le_of_ble_eq_true rfl) rfl rfl ?_
    refine J_aload_n (pc := 100) X (j := 0) (i := 0) rfl rfl dX8_look_100 ?_
    obtain ⟨h17, hc, hq⟩ := bnv_e hq
    refine J_callV (pc := 101) (as := []) (st := []) (st2 := []) (r1 := (none, h17)) (h2 := h17) (ky := 2) X dX8_look_101 ca_X8_tellSure ci_X8_tellSure cs_X8_tellSure ml_8_71 (by decide) ly133 rfl rfl (m_X8_tellSure _ _ hc) rfl rfl (Nat.le_of_ble_eq_true rfl) rfl rfl ?_
    refine J_aload_n (pc := 104) X (j := 0) (i := 0) rfl rfl dX8_look_104 ?_
    obtain ⟨h18, hc, hq⟩ := bnv_e hq
    refine J_callV (pc := 105) (as := []) (st := []) (st2 := []) (r1 := (none, h18)) (h2 := h18) (ky := 3) X dX8_look_105 ca_X8_weighAll ci_X8_weighAll cs_X8_weighAll ml_8_74 (by decide) ly133 rfl rfl (m_X8_weighAll _ _ hc) rfl rfl (Nat.le_of_ble_eq_true rfl) rfl rfl ?_
    refine J_aload_n (pc := 108) X (j := 0) (i := 0) rfl rfl dX8_look_108 ?_
    refine J_aload_n (pc := 109) X (j := 0) (i := 0) rfl rfl dX8_look_109 ?_
    refine J_getF (pc := 110) X (b := 139) ly133 fl_8_31 rfl dX8_look_110 ?_
    refine J_iconst (pc := 113) X (v := 5) (by decide) dX8_look_113 ?_
    refine J_laload (pc := 114) X ly139 (by decide) dX8_look_114 ?_
    refine J_putL (pc := 115) X ly133 fp_8_77 dX8_look_115 ?_
    refine J_ltH hq (fun h19 hq => ?_)
    refine J_aload_n (pc := 118) X (j := 0) (i := 0) rfl rfl dX8_look_118 ?_
    refine J_getL (pc := 119) X ly133 fl_8_77 dX8_look_119 ?_
    refine J_lconst (pc := 122) X (v := 0) (by decide) dX8_look_122 ?_
    refine J_lcmp (pc := 123) X dX8_look_123 ?_
    refine J_if_le (pc := 124) (tgt := 131) X dX8_look_124 rfl (fun c20 => ?_) (fun c20 => ?_)
    · have hq := ite_t hq c20
      obtain rfl := Option.some.inj hq
      exact J_vret (pc := 131) X dX8_look_131
    · have hq := ite_f hq c20
      refine J_aload_n (pc := 127) X (j := 0) (i := 0) rfl rfl dX8_look_127 ?_
      obtain ⟨h21, hc, hq⟩ := bnv_e hq
      refine J_callV (pc := 128) (as := []) (st := []) (st2 := []) (r1 := (none, h21)) (h2 := h21) (ky := 4) X dX8_look_128 ca_X8_chooseRow ci_X8_chooseRow cs_X8_chooseRow ml_8_81 (by decide) ly133 rfl rfl (m_X8_chooseRow _ _ hc) rfl rfl (Nat.le_of_ble_eq_true rfl) rfl rfl ?_
      obtain rfl := Option.some.inj hq
      exact J_vret (pc := 131) X dX8_look_131
theorem m_X8_look (x1 : Nat) (x2 : Nat) (x3 : Int32) (x4 : Int32) (h : Hp) (q : Hp) (lx1 : lay x1 = some (.inl 8)) (lx2 : lay x2 = some (.inl 5)) (hq : f_X8_look x1 x2 x3 x4 h = some q) : ∀ l w, CT l w yX8_look cX8_look 8 (none) 5 [.inr (.inr 133), .inr (.inr x1), .inr (.inr x2), .inl x3, .inl x4] h (none, q) :=
  CT_of (L0 := [(0, .inr (.inr 133)), (1, .inr (.inr x1)), (2, .inr (.inr x2)), (3, .inl x3), (4, .inl x4)]) (by decide) rfl (Nat.le_of_ble_eq_true rfl) (fun κ X => tf_X8_look X x1 x2 x3 x4 h q lx1 lx2 hq)
theorem tf_X10_hasSaying {κ : Kx} (X : OK κ cX10_hasSaying 2 (some .boolean) "StruckWords$Tongue" 1) (x0 : Nat) (x1 : Int32) (h : Hp) (q : (Int32 × Hp)) (lx0 : lay x0 = some (.inl 8)) (hq : f_X10_hasSaying x0 x1 h = some q) : J κ 0 [(0, .inr (.inr x0)), (1, .inl x1)] [] h (some (.inl q.1), q.2) := by
  delta f_X10_hasSaying at hq
  refine J_iload_n (pc := 0) X (j := 1) (i := 1) rfl rfl dX10_hasSaying_0 ?_
  refine J_if_lt (pc := 1) (tgt := 16) X dX10_hasSaying_1 rfl (fun c1 => ?_) (fun c1 => ?_)
  · have hq := ite_t hq c1
    refine J_iconst (pc := 16) X (v := 0) (by decide) dX10_hasSaying_16 ?_
    obtain rfl := Option.some.inj hq
    exact J_zret (pc := 17) X (by decide) dX10_hasSaying_17
  · have hq := ite_f hq c1
    refine J_iload_n (pc := 4) X (j := 1) (i := 1) rfl rfl dX10_hasSaying_4 ?_
    refine J_aload_n (pc := 5) X (j := 0) (i := 0) rfl rfl dX10_hasSaying_5 ?_
    refine J_getI (pc := 6) X lx0 fl_10_57 dX10_hasSaying_6 ?_
    refine J_icmp_ge (pc := 9) (tgt := 16) X dX10_hasSaying_9 rfl (fun c2 => ?_) (fun c2 => ?_)
    · have hq := ite_t hq c2
      refine J_iconst (pc := 16) X (v := 0) (by decide) dX10_hasSaying_16 ?_
      obtain rfl := Option.some.inj hq
      exact J_zret (pc := 17) X (by decide) dX10_hasSaying_17
    · have hq := ite_f hq c2
      refine J_iconst (pc := 12) X (v := 1) (by decide) dX10_hasSaying_12 ?_
      refine J_goto (pc := 13) X (tgt := 17) dX10_hasSaying_13 rfl ?_
      obtain rfl := Option.some.inj hq
      exact J_zret (pc := 17) X (by decide) dX10_hasSaying_17
theorem m_X10_hasSaying (x0 : Nat) (x1 : Int32) (h : Hp) (q : (Int32 × Hp)) (lx0 : lay x0 = some (.inl 8)) (hq : f_X10_hasSaying x0 x1 h = some q) : ∀ l w, CT l w yX10_hasSaying cX10_hasSaying 2 (some .boolean) 1 [.inr (.inr x0), .inl x1] h (some (.inl q.1), q.2) :=
  CT_of (L0 := [(0, .inr (.inr x0)), (1, .inl x1)]) (by decide) rfl (Nat.le_of_ble_eq_true rfl) (fun κ X => tf_X10_hasSaying X x0 x1 h q lx0 hq)
theorem tf_X10_hasSort {κ : Kx} (X : OK κ cX10_hasSort 2 (some .boolean) "StruckWords$Tongue" 1) (x0 : Nat) (x1 : Int32) (h : Hp) (q : (Int32 × Hp)) (lx0 : lay x0 = some (.inl 8)) (hq : f_X10_hasSort x0 x1 h = some q) : J κ 0 [(0, .inr (.inr x0)), (1, .inl x1)] [] h (some (.inl q.1), q.2) := by
  delta f_X10_hasSort at hq
  refine J_iload_n (pc := 0) X (j := 1) (i := 1) rfl rfl dX10_hasSort_0 ?_
  refine J_if_lt (pc := 1) (tgt := 16) X dX10_hasSort_1 rfl (fun c1 => ?_) (fun c1 => ?_)
  · have hq := ite_t hq c1
    refine J_iconst (pc := 16) X (v := 0) (by decide) dX10_hasSort_16 ?_
    obtain rfl := Option.some.inj hq
    exact J_zret (pc := 17) X (by decide) dX10_hasSort_17
  · have hq := ite_f hq c1
    refine J_iload_n (pc := 4) X (j := 1) (i := 1) rfl rfl dX10_hasSort_4 ?_
    refine J_aload_n (pc := 5) X (j := 0) (i := 0) rfl rfl dX10_hasSort_5 ?_
    refine J_getI (pc := 6) X lx0 fl_10_50 dX10_hasSort_6 ?_
    refine J_icmp_ge (pc := 9) (tgt := 16) X dX10_hasSort_9 rfl (fun c2 => ?_) (fun c2 => ?_)
    · have hq := ite_t hq c2
      refine J_iconst (pc := 16) X (v := 0) (by decide) dX10_hasSort_16 ?_
      obtain rfl := Option.some.inj hq
      exact J_zret (pc := 17) X (by decide) dX10_hasSort_17
    · have hq := ite_f hq c2
      refine J_iconst (pc := 12) X (v := 1) (by decide) dX10_hasSort_12 ?_
      refine J_goto (pc := 13) X (tgt := 17) dX10_hasSort_13 rfl ?_
      obtain rfl := Option.some.inj hq
      exact J_zret (pc := 17) X (by decide) dX10_hasSort_17
theorem m_X10_hasSort (x0 : Nat) (x1 : Int32) (h : Hp) (q : (Int32 × Hp)) (lx0 : lay x0 = some (.inl 8)) (hq : f_X10_hasSort x0 x1 h = some q) : ∀ l w, CT l w yX10_hasSort cX10_hasSort 2 (some .boolean) 1 [.inr (.inr x0), .inl x1] h (some (.inl q.1), q.2) :=
  CT_of (L0 := [(0, .inr (.inr x0)), (1, .inl x1)]) (by decide) rfl (Nat.le_of_ble_eq_true rfl) (fun κ X => tf_X10_hasSort X x0 x1 h q lx0 hq)
theorem tf_X10_isTold {κ : Kx} (X : OK κ cX10_isTold 4 (some .boolean) "StruckWords$Tongue" 2) (x0 : Nat) (x1 : Int32) (x2 : Int32) (x3 : Int32) (h : Hp) (q : (Int32 × Hp)) (lx0 : lay x0 = some (.inl 8)) (hq : f_X10_isTold x0 x1 x2 x3 h = some q) : J κ 0 [(0, .inr (.inr x0)), (1, .inl x1), (2, .inl x2), (3, .inl x3)] [] h (some (.inl q.1), q.2) := by
  delta f_X10_isTold at hq
  refine J_iload_n (pc := 0) X (j := 1) (i := 1) rfl rfl dX10_isTold_0 ?_
  refine J_if_eq (pc := 1) (tgt := 13) X dX10_isTold_1 rfl (fun c1 => ?_) (fun c1 => ?_)
  · have hq := ite_t hq c1
    refine J_aload_n (pc := 13) X (j := 0) (i := 0) rfl rfl dX10_isTold_13 ?_
    refine J_iload_n (pc := 14) X (j := 2) (i := 2) rfl rfl dX10_isTold_14 ?_
    refine J_iload_n (pc := 15) X (j := 3) (i := 3) rfl rfl dX10_isTold_15 ?_
    obtain ⟨v3, h2, hc, hq⟩ := bnd_e hq
    refine J_callV (pc := 16) (as := [.inl x2, .inl x3]) (st := []) (st2 := [.inl v3]) (r1 := (some (.inl v3), h2)) (h2 := h2) (ky := 1) X dX10_isTold_16 ca_X10_readsAs ci_X10_readsAs cs_X10_readsAs ml_10_98 (by decide) lx0 rfl rfl (m_X10_readsAs _ _ _ _ _ lx0 hc) rfl rfl (Nat.le_of_ble_eq_true rfl) rfl rfl ?_
    obtain ⟨g4, hq⟩ := gd hq
    obtain rfl := Option.some.inj hq
    exact J_zret (pc := 19) X g4 dX10_isTold_19
  · have hq := ite_f hq c1
    refine J_aload_n (pc := 4) X (j := 0) (i := 0) rfl rfl dX10_isTold_4 ?_
    refine J_iload_n (pc := 5) X (j := 2) (i := 2) rfl rfl dX10_isTold_5 ?_
    refine J_iload_n (pc := 6) X (j := 3) (i := 3) rfl rfl dX10_isTold_6 ?_
    obtain ⟨v6, h5, hc, hq⟩ := bnd_e hq
    refine J_callV (pc := 7) (as := [.inl x2, .inl x3]) (st := []) (st2 := [.inl v6]) (r1 := (some (.inl v6), h5)) (h2 := h5) (ky := 1) X dX10_isTold_7 ca_X10_mayFollow ci_X10_mayFollow cs_X10_mayFollow ml_10_94 (by decide) lx0 rfl rfl (m_X10_mayFollow _ _ _ _ _ lx0 hc) rfl rfl (Nat.le_of_ble_eq_true rfl) rfl rfl ?_
    refine J_goto (pc := 10) X (tgt := 19) dX10_isTold_10 rfl ?_
    obtain ⟨g7, hq⟩ := gd hq
    obtain rfl := Option.some.inj hq
    exact J_zret (pc := 19) X g7 dX10_isTold_19
theorem m_X10_isTold (x0 : Nat) (x1 : Int32) (x2 : Int32) (x3 : Int32) (h : Hp) (q : (Int32 × Hp)) (lx0 : lay x0 = some (.inl 8)) (hq : f_X10_isTold x0 x1 x2 x3 h = some q) : ∀ l w, CT l w yX10_isTold cX10_isTold 4 (some .boolean) 2 [.inr (.inr x0), .inl x1, .inl x2, .inl x3] h (some (.inl q.1), q.2) :=
  CT_of (L0 := [(0, .inr (.inr x0)), (1, .inl x1), (2, .inl x2), (3, .inl x3)]) (by decide) rfl (Nat.le_of_ble_eq_true rfl) (fun κ X => tf_X10_isTold X x0 x1 x2 x3 h q lx0 hq)
theorem tf_X10_turnTold {κ : Kx} (X : OK κ cX10_turnTold 4 (none) "StruckWords$Tongue" 2) (x0 : Nat) (x1 : Int32) (x2 : Int32) (x3 : Int32) (h : Hp) (q : Hp) (lx0 : lay x0 = some (.inl 8)) (hq : f_X10_turnTold x0 x1 x2 x3 h = some q) : J κ 0 [(0, .inr (.inr x0)), (1, .inl x1), (2, .inl x2), (3, .inl x3)] [] h (none, q) := by
  delta f_X10_turnTold at hq
  refine J_iload_n (pc := 0) X (j := 1) (i := 1) rfl rfl dX10_turnTold_0 ?_
  refine J_if_eq (pc := 1) (tgt := 13) X dX10_turnTold_1 rfl (fun c1 => ?_) (fun c1 => ?_)
  · have hq := ite_t hq c1
    refine J_aload_n (pc := 13) X (j := 0) (i := 0) rfl rfl dX10_turnTold_13 ?_
    refine J_iload_n (pc := 14) X (j := 2) (i := 2) rfl rfl dX10_turnTold_14 ?_
    refine J_iload_n (pc := 15) X (j := 3) (i := 3) rfl rfl dX10_turnTold_15 ?_
    obtain ⟨h2, hc, hq⟩ := bnv_e hq
    refine J_callV (pc := 16) (as := [.inl x2, .inl x3]) (st := []) (st2 := []) (r1 := (none, h2)) (h2 := h2) (ky := 1) X dX10_turnTold_16 ca_X10_turnReads ci_X10_turnReads cs_X10_turnReads ml_10_104 (by decide) lx0 rfl rfl (m_X10_turnReads _ _ _ _ _ lx0 hc) rfl rfl (Nat.le_of_ble_eq_true rfl) rfl rfl ?_
    obtain rfl := Option.some.inj hq
    exact J_vret (pc := 19) X dX10_turnTold_19
  · have hq := ite_f hq c1
    refine J_aload_n (pc := 4) X (j := 0) (i := 0) rfl rfl dX10_turnTold_4 ?_
    refine J_iload_n (pc := 5) X (j := 2) (i := 2) rfl rfl dX10_turnTold_5 ?_
    refine J_iload_n (pc := 6) X (j := 3) (i := 3) rfl rfl dX10_turnTold_6 ?_
    obtain ⟨h3, hc, hq⟩ := bnv_e hq
    refine J_callV (pc := 7) (as := [.inl x2, .inl x3]) (st := []) (st2 := []) (r1 := (none, h3)) (h2 := h3) (ky := 1) X dX10_turnTold_7 ca_X10_turnFollow ci_X10_turnFollow cs_X10_turnFollow ml_10_101 (by decide) lx0 rfl rfl (m_X10_turnFollow _ _ _ _ _ lx0 hc) rfl rfl (Nat.le_of_ble_eq_true rfl) rfl rfl ?_
    refine J_goto (pc := 10) X (tgt := 19) dX10_turnTold_10 rfl ?_
    obtain rfl := Option.some.inj hq
    exact J_vret (pc := 19) X dX10_turnTold_19
theorem m_X10_turnTold (x0 : Nat) (x1 : Int32) (x2 : Int32) (x3 : Int32) (h : Hp) (q : Hp) (lx0 : lay x0 = some (.inl 8)) (hq : f_X10_turnTold x0 x1 x2 x3 h = some q) : ∀ l w, CT l w yX10_turnTold cX10_turnTold 4 (none) 2 [.inr (.inr x0), .inl x1, .inl x2, .inl x3] h (none, q) :=
  CT_of (L0 := [(0, .inr (.inr x0)), (1, .inl x1), (2, .inl x2), (3, .inl x3)]) (by decide) rfl (Nat.le_of_ble_eq_true rfl) (fun κ X => tf_X10_turnTold X x0 x1 x2 x3 h q lx0 hq)
theorem tF_X10_readAlike_23 {κ : Kx} (X : OK κ cX10_readAlike 5 (some .boolean) "StruckWords$Tongue" 1) (x0 : Nat) (x1 : Int32) (x2 : Int32) (x3 : Int32) (k54 : Hp → Option (Int32 × Hp)) (k62 : Hp → Option (Int32 × Hp)) (self : Int32 → Hp → Option (Int32 × Hp)) (x4 : Int32) (h : Hp) (q : (Int32 × Hp)) (lx0 : lay x0 = some (.inl 8)) (hk54 : ∀ (h : Hp) (q : (Int32 × Hp)), k54 h = some q → J κ 54 [] [] h (some (.inl q.1), q.2)) (hk62 : ∀ (h : Hp) (q : (Int32 × Hp)), k62 h = some q → J κ 62 [] [] h (some (.inl q.1), q.2)) (hself : ∀ (x4 : Int32) (h : Hp) (q : (Int32 × Hp)), self x4 h = some q → J κ 23 [(0, .inr (.inr x0)), (1, .inl x1), (2, .inl x2), (3, .inl x3), (4, .inl x4)] [] h (some (.inl q.1), q.2)) (hq : F_X10_readAlike_23 x0 x1 x2 x3 k54 k62 self x4 h = some q) : J κ 23 [(0, .inr (.inr x0)), (1, .inl x1), (2, .inl x2), (3, .inl x3), (4, .inl x4)] [] h (some (.inl q.1), q.2) := by
  delta F_X10_readAlike_23 at hq
  refine J_iload (pc := 23) X (j := 4) rfl dX10_readAlike_23 ?_
  refine J_iload_n (pc := 25) X (j := 3) (i := 3) rfl rfl dX10_readAlike_25 ?_
  refine J_icmp_ge (pc := 26) (tgt := 62) X dX10_readAlike_26 rfl (fun c4 => ?_) (fun c4 => ?_)
  · have hq := ite_t hq c4
    refine J_sub [] rfl ?_
    exact hk62 _ _ hq
  · have hq := ite_f hq c4
    refine J_aload_n (pc := 29) X (j := 0) (i := 0) rfl rfl dX10_readAlike_29 ?_
    refine J_getF (pc := 30) X (b := x0 + 9) lx0 fl_10_41 rfl dX10_readAlike_30 ?_
    refine J_iload_n (pc := 33) X (j := 1) (i := 1) rfl rfl dX10_readAlike_33 ?_
    refine J_iload_n (pc := 34) X (j := 3) (i := 3) rfl rfl dX10_readAlike_34 ?_
    refine J_imul (pc := 35) X dX10_readAlike_35 ?_
    refine J_iload (pc := 36) X (j := 4) rfl dX10_readAlike_36 ?_
    refine J_iadd (pc := 38) X dX10_readAlike_38 ?_
    obtain ⟨g5, hq⟩ := gd hq
    refine J_iaload (pc := 39) X (ly_8_9 lx0) g5 dX10_readAlike_39 ?_
    refine J_aload_n (pc := 40) X (j := 0) (i := 0) rfl rfl dX10_readAlike_40 ?_
    refine J_getF (pc := 41) X (b := x0 + 9) lx0 fl_10_41 rfl dX10_readAlike_41 ?_
    refine J_iload_n (pc := 44) X (j := 2) (i := 2) rfl rfl dX10_readAlike_44 ?_
    refine J_iload_n (pc := 45) X (j := 3) (i := 3) rfl rfl dX10_readAlike_45 ?_
    refine J_imul (pc := 46) X dX10_readAlike_46 ?_
    refine J_iload (pc := 47) X (j := 4) rfl dX10_readAlike_47 ?_
    refine J_iadd (pc := 49) X dX10_readAlike_49 ?_
    obtain ⟨g6, hq⟩ := gd hq
    refine J_iaload (pc := 50) X (ly_8_9 lx0) g6 dX10_readAlike_50 ?_
    refine J_icmp_eq (pc := 51) (tgt := 56) X dX10_readAlike_51 rfl (fun c7 => ?_) (fun c7 => ?_)
    · have hq := ite_t hq c7
      refine J_iinc (pc := 56) X (j := 4) (v := 1) (L' := [(4, .inl (x4 + 1)), (0, .inr (.inr x0)), (1, .inl x1), (2, .inl x2), (3, .inl x3)]) rfl (by decide) (by decide) rfl dX10_readAlike_56 ?_
      refine J_goto (pc := 59) X (tgt := 23) dX10_readAlike_59 rfl ?_
      refine J_sub [1, 2, 3, 4, 0] rfl ?_
      exact hself _ _ _ hq
    · have hq := ite_f hq c7
      refine J_sub [] rfl ?_
      exact hk54 _ _ hq
theorem tL_X10_readAlike_23 {κ : Kx} (X : OK κ cX10_readAlike 5 (some .boolean) "StruckWords$Tongue" 1) (x0 : Nat) (x1 : Int32) (x2 : Int32) (x3 : Int32) (k54 : Hp → Option (Int32 × Hp)) (k62 : Hp → Option (Int32 × Hp)) (N : Nat) (x4 : Int32) (h : Hp) (q : (Int32 × Hp)) (lx0 : lay x0 = some (.inl 8)) (hk54 : ∀ (h : Hp) (q : (Int32 × Hp)), k54 h = some q → J κ 54 [] [] h (some (.inl q.1), q.2)) (hk62 : ∀ (h : Hp) (q : (Int32 × Hp)), k62 h = some q → J κ 62 [] [] h (some (.inl q.1), q.2)) (hq : itr2 (F_X10_readAlike_23 x0 x1 x2 x3 k54 k62) N x4 h = some q) : J κ 23 [(0, .inr (.inr x0)), (1, .inl x1), (2, .inl x2), (3, .inl x3), (4, .inl x4)] [] h (some (.inl q.1), q.2) :=
  itr2_ind (fun self hs x4 h q hq => tF_X10_readAlike_23 X x0 x1 x2 x3 k54 k62 self x4 h q lx0 hk54 hk62 hs hq) N x4 h q hq
theorem tf_X10_readAlike {κ : Kx} (X : OK κ cX10_readAlike 5 (some .boolean) "StruckWords$Tongue" 1) (x0 : Nat) (x1 : Int32) (x2 : Int32) (h : Hp) (q : (Int32 × Hp)) (lx0 : lay x0 = some (.inl 8)) (hq : f_X10_readAlike x0 x1 x2 h = some q) : J κ 0 [(0, .inr (.inr x0)), (1, .inl x1), (2, .inl x2)] [] h (some (.inl q.1), q.2) := by
  delta f_X10_readAlike at hq
  refine J_aload_n (pc := 0) X (j := 0) (i := 0) rfl rfl dX10_readAlike_0 ?_
  refine J_getF (pc := 1) X (b := x0 + 8) lx0 fl_10_38 rfl dX10_readAlike_1 ?_
  refine J_iload_n (pc := 4) X (j := 1) (i := 1) rfl rfl dX10_readAlike_4 ?_
  obtain ⟨g1, hq⟩ := gd hq
  refine J_iaload (pc := 5) X (ly_8_8 lx0) g1 dX10_readAlike_5 ?_
  refine J_aload_n (pc := 6) X (j := 0) (i := 0) rfl rfl dX10_readAlike_6 ?_
  refine J_getF (pc := 7) X (b := x0 + 8) lx0 fl_10_38 rfl dX10_readAlike_7 ?_
  refine J_iload_n (pc := 10) X (j := 2) (i := 2) rfl rfl dX10_readAlike_10 ?_
  obtain ⟨g2, hq⟩ := gd hq
  refine J_iaload (pc := 11) X (ly_8_8 lx0) g2 dX10_readAlike_11 ?_
  refine J_icmp_eq (pc := 12) (tgt := 17) X dX10_readAlike_12 rfl (fun c3 => ?_) (fun c3 => ?_)
  · have hq := ite_t hq c3
    refine J_bipush (pc := 17) X (v := 40) (by decide) dX10_readAlike_17 ?_
    refine J_istore_n (pc := 19) X (L' := [(3, .inl 40), (0, .inr (.inr x0)), (1, .inl x1), (2, .inl x2)]) (i := 3) rfl (by decide) rfl dX10_readAlike_19 ?_
    refine J_iconst (pc := 20) X (v := 0) (by decide) dX10_readAlike_20 ?_
    refine J_istore (pc := 21) X (L' := [(4, .inl 0), (3, .inl 40), (0, .inr (.inr x0)), (1, .inl x1), (2, .inl x2)]) (by decide) rfl dX10_readAlike_21 ?_
    refine J_sub [2, 3, 4, 1, 0] rfl ?_
    refine tL_X10_readAlike_23 X _ _ _ _ _ _ N0 _ _ _ lx0 ?_ ?_ hq
    · intro h8 q hq
      refine J_iconst (pc := 54) X (v := 0) (by decide) dX10_readAlike_54 ?_
      obtain rfl := Option.some.inj hq
      exact J_zret (pc := 55) X (by decide) dX10_readAlike_55
    · intro h9 q hq
      refine J_iconst (pc := 62) X (v := 1) (by decide) dX10_readAlike_62 ?_
      obtain rfl := Option.some.inj hq
      exact J_zret (pc := 63) X (by decide) dX10_readAlike_63
  · have hq := ite_f hq c3
    refine J_iconst (pc := 15) X (v := 0) (by decide) dX10_readAlike_15 ?_
    obtain rfl := Option.some.inj hq
    exact J_zret (pc := 16) X (by decide) dX10_readAlike_16
theorem m_X10_readAlike (x0 : Nat) (x1 : Int32) (x2 : Int32) (h : Hp) (q : (Int32 × Hp)) (lx0 : lay x0 = some (.inl 8)) (hq : f_X10_readAlike x0 x1 x2 h = some q) : ∀ l w, CT l w yX10_readAlike cX10_readAlike 5 (some .boolean) 1 [.inr (.inr x0), .inl x1, .inl x2] h (some (.inl q.1), q.2) :=
  CT_of (L0 := [(0, .inr (.inr x0)), (1, .inl x1), (2, .inl x2)]) (by decide) rfl (Nat.le_of_ble_eq_true rfl) (fun κ X => tf_X10_readAlike X x0 x1 x2 h q lx0 hq)
theorem tF_X10_allWeighs_4 {κ : Kx} (X : OK κ cX10_allWeighs 3 (some .int) "StruckWords$Tongue" 1) (x0 : Nat) (k27 : Int32 → Hp → Option (Int32 × Hp)) (self : Int32 → Int32 → Hp → Option (Int32 × Hp)) (x1 : Int32) (x2 : Int32) (h : Hp) (q : (Int32 × Hp)) (lx0 : lay x0 = some (.inl 8)) (hk27 : ∀ (x1 : Int32) (h : Hp) (q : (Int32 × Hp)), k27 x1 h = some q → J κ 27 [(1, .inl x1)] [] h (some (.inl q.1), q.2)) (hself : ∀ (x1 : Int32) (x2 : Int32) (h : Hp) (q : (Int32 × Hp)), self x1 x2 h = some q → J κ 4 [(0, .inr (.inr x0)), (1, .inl x1), (2, .inl x2)] [] h (some (.inl q.1), q.2)) (hq : F_X10_allWeighs_4 x0 k27 self x1 x2 h = some q) : J κ 4 [(0, .inr (.inr x0)), (1, .inl x1), (2, .inl x2)] [] h (some (.inl q.1), q.2) := by
  delta F_X10_allWeighs_4 at hq
  refine J_iload_n (pc := 4) X (j := 2) (i := 2) rfl rfl dX10_allWeighs_4 ?_
  refine J_aload_n (pc := 5) X (j := 0) (i := 0) rfl rfl dX10_allWeighs_5 ?_
  refine J_getI (pc := 6) X lx0 fl_10_57 dX10_allWeighs_6 ?_
  refine J_icmp_ge (pc := 9) (tgt := 27) X dX10_allWeighs_9 rfl (fun c1 => ?_) (fun c1 => ?_)
  · have hq := ite_t hq c1
    refine J_sub [1] rfl ?_
    exact hk27 _ _ _ hq
  · have hq := ite_f hq c1
    refine J_iload_n (pc := 12) X (j := 1) (i := 1) rfl rfl dX10_allWeighs_12 ?_
    refine J_aload_n (pc := 13) X (j := 0) (i := 0) rfl rfl dX10_allWeighs_13 ?_
    refine J_getF (pc := 14) X (b := x0 + 6) lx0 fl_10_32 rfl dX10_allWeighs_14 ?_
    refine J_iload_n (pc := 17) X (j := 2) (i := 2) rfl rfl dX10_allWeighs_17 ?_
    obtain ⟨g2, hq⟩ := gd hq
    refine J_iaload (pc := 18) X (ly_8_6 lx0) g2 dX10_allWeighs_18 ?_
    refine J_iadd (pc := 19) X dX10_allWeighs_19 ?_
    refine J_ltI hq (fun v3 hq => ?_)
    refine J_istore_n (pc := 20) X (L' := [(1, .inl v3), (0, .inr (.inr x0)), (2, .inl x2)]) (i := 1) rfl (by decide) rfl dX10_allWeighs_20 ?_
    refine J_iinc (pc := 21) X (j := 2) (v := 1) (L' := [(2, .inl (x2 + 1)), (1, .inl v3), (0, .inr (.inr x0))]) rfl (by decide) (by decide) rfl dX10_allWeighs_21 ?_
    refine J_goto (pc := 24) X (tgt := 4) dX10_allWeighs_24 rfl ?_
    refine J_sub [2, 1, 0] rfl ?_
    exact hself _ _ _ _ hq
theorem tL_X10_allWeighs_4 {κ : Kx} (X : OK κ cX10_allWeighs 3 (some .int) "StruckWords$Tongue" 1) (x0 : Nat) (k27 : Int32 → Hp → Option (Int32 × Hp)) (N : Nat) (x1 : Int32) (x2 : Int32) (h : Hp) (q : (Int32 × Hp)) (lx0 : lay x0 = some (.inl 8)) (hk27 : ∀ (x1 : Int32) (h : Hp) (q : (Int32 × Hp)), k27 x1 h = some q → J κ 27 [(1, .inl x1)] [] h (some (.inl q.1), q.2)) (hq : itr3 (F_X10_allWeighs_4 x0 k27) N x1 x2 h = some q) : J κ 4 [(0, .inr (.inr x0)), (1, .inl x1), (2, .inl x2)] [] h (some (.inl q.1), q.2) :=
  itr3_ind (fun self hs x1 x2 h q hq => tF_X10_allWeighs_4 X x0 k27 self x1 x2 h q lx0 hk27 hs hq) N x1 x2 h q hq
theorem tf_X10_allWeighs {κ : Kx} (X : OK κ cX10_allWeighs 3 (some .int) "StruckWords$Tongue" 1) (x0 : Nat) (h : Hp) (q : (Int32 × Hp)) (lx0 : lay x0 = some (.inl 8)) (hq : f_X10_allWeighs x0 h = some q) : J κ 0 [(0, .inr (.inr x0))] [] h (some (.inl q.1), q.2) := by
  delta f_X10_allWeighs at hq
  refine J_iconst (pc := 0) X (v := 0) (by decide) dX10_allWeighs_0 ?_
  refine J_istore_n (pc := 1) X (L' := [(1, .inl 0), (0, .inr (.inr x0))]) (i := 1) rfl (by decide) rfl dX10_allWeighs_1 ?_
  refine J_iconst (pc := 2) X (v := 0) (by decide) dX10_allWeighs_2 ?_
  refine J_istore_n (pc := 3) X (L' := [(2, .inl 0), (1, .inl 0), (0, .inr (.inr x0))]) (i := 2) rfl (by decide) rfl dX10_allWeighs_3 ?_
  refine J_sub [2, 1, 0] rfl ?_
  refine tL_X10_allWeighs_4 X _ _ N0 _ _ _ _ lx0 ?_ hq
  · intro v5 h4 q hq
    refine J_iload_n (pc := 27) X (j := 0) (i := 1) rfl rfl dX10_allWeighs_27 ?_
    obtain rfl := Option.some.inj hq
    exact J_iret (pc := 28) X dX10_allWeighs_28
theorem m_X10_allWeighs (x0 : Nat) (h : Hp) (q : (Int32 × Hp)) (lx0 : lay x0 = some (.inl 8)) (hq : f_X10_allWeighs x0 h = some q) : ∀ l w, CT l w yX10_allWeighs cX10_allWeighs 3 (some .int) 1 [.inr (.inr x0)] h (some (.inl q.1), q.2) :=
  CT_of (L0 := [(0, .inr (.inr x0))]) (by decide) rfl (Nat.le_of_ble_eq_true rfl) (fun κ X => tf_X10_allWeighs X x0 h q lx0 hq)
theorem tF_X10_weighedAt_4 {κ : Kx} (X : OK κ cX10_weighedAt 4 (some .int) "StruckWords$Tongue" 1) (x0 : Nat) (x1 : Int32) (k28 : Int32 → Hp → Option (Int32 × Hp)) (k36 : Hp → Option (Int32 × Hp)) (self : Int32 → Int32 → Hp → Option (Int32 × Hp)) (x2 : Int32) (x3 : Int32) (h : Hp) (q : (Int32 × Hp)) (lx0 : lay x0 = some (.inl 8)) (hk28 : ∀ (x3 : Int32) (h : Hp) (q : (Int32 × Hp)), k28 x3 h = some q → J κ 28 [(3, .inl x3)] [] h (some (.inl q.1), q.2)) (hk36 : ∀ (h : Hp) (q : (Int32 × Hp)), k36 h = some q → J κ 36 [(0, .inr (.inr x0))] [] h (some (.inl q.1), q.2)) (hself : ∀ (x2 : Int32) (x3 : Int32) (h : Hp) (q : (Int32 × Hp)), self x2 x3 h = some q → J κ 4 [(0, .inr (.inr x0)), (1, .inl x1), (2, .inl x2), (3, .inl x3)] [] h (some (.inl q.1), q.2)) (hq : F_X10_weighedAt_4 x0 x1 k28 k36 self x2 x3 h = some q) : J κ 4 [(0, .inr (.inr x0)), (1, .inl x1), (2, .inl x2), (3, .inl x3)] [] h (some (.inl q.1), q.2) := by
  delta F_X10_weighedAt_4 at hq
  refine J_iload_n (pc := 4) X (j := 3) (i := 3) rfl rfl dX10_weighedAt_4 ?_
  refine J_aload_n (pc := 5) X (j := 0) (i := 0) rfl rfl dX10_weighedAt_5 ?_
  refine J_getI (pc := 6) X lx0 fl_10_57 dX10_weighedAt_6 ?_
  refine J_iconst (pc := 9) X (v := 1) (by decide) dX10_weighedAt_9 ?_
  refine J_isub (pc := 10) X dX10_weighedAt_10 ?_
  refine J_icmp_ge (pc := 11) (tgt := 36) X dX10_weighedAt_11 rfl (fun c1 => ?_) (fun c1 => ?_)
  · have hq := ite_t hq c1
    refine J_sub [0] rfl ?_
    exact hk36 _ _ hq
  · have hq := ite_f hq c1
    refine J_iload_n (pc := 14) X (j := 2) (i := 2) rfl rfl dX10_weighedAt_14 ?_
    refine J_aload_n (pc := 15) X (j := 0) (i := 0) rfl rfl dX10_weighedAt_15 ?_
    refine J_getF (pc := 16) X (b := x0 + 6) lx0 fl_10_32 rfl dX10_weighedAt_16 ?_
    refine J_iload_n (pc := 19) X (j := 3) (i := 3) rfl rfl dX10_weighedAt_19 ?_
    obtain ⟨g2, hq⟩ := gd hq
    refine J_iaload (pc := 20) X (ly_8_6 lx0) g2 dX10_weighedAt_20 ?_
    refine J_iadd (pc := 21) X dX10_weighedAt_21 ?_
    refine J_ltI hq (fun v3 hq => ?_)
    refine J_istore_n (pc := 22) X (L' := [(2, .inl v3), (0, .inr (.inr x0)), (1, .inl x1), (3, .inl x3)]) (i := 2) rfl (by decide) rfl dX10_weighedAt_22 ?_
    refine J_iload_n (pc := 23) X (j := 0) (i := 2) rfl rfl dX10_weighedAt_23 ?_
    refine J_iload_n (pc := 24) X (j := 2) (i := 1) rfl rfl dX10_weighedAt_24 ?_
    refine J_icmp_le (pc := 25) (tgt := 30) X dX10_weighedAt_25 rfl (fun c4 => ?_) (fun c4 => ?_)
    · have hq := ite_t hq c4
      refine J_iinc (pc := 30) X (j := 3) (v := 1) (L' := [(3, .inl (x3 + 1)), (2, .inl v3), (0, .inr (.inr x0)), (1, .inl x1)]) rfl (by decide) (by decide) rfl dX10_weighedAt_30 ?_
      refine J_goto (pc := 33) X (tgt := 4) dX10_weighedAt_33 rfl ?_
      refine J_sub [2, 3, 1, 0] rfl ?_
      exact hself _ _ _ _ hq
    · have hq := ite_f hq c4
      refine J_sub [3] rfl ?_
      exact hk28 _ _ _ hq
theorem tL_X10_weighedAt_4 {κ : Kx} (X : OK κ cX10_weighedAt 4 (some .int) "StruckWords$Tongue" 1) (x0 : Nat) (x1 : Int32) (k28 : Int32 → Hp → Option (Int32 × Hp)) (k36 : Hp → Option (Int32 × Hp)) (N : Nat) (x2 : Int32) (x3 : Int32) (h : Hp) (q : (Int32 × Hp)) (lx0 : lay x0 = some (.inl 8)) (hk28 : ∀ (x3 : Int32) (h : Hp) (q : (Int32 × Hp)), k28 x3 h = some q → J κ 28 [(3, .inl x3)] [] h (some (.inl q.1), q.2)) (hk36 : ∀ (h : Hp) (q : (Int32 × Hp)), k36 h = some q → J κ 36 [(0, .inr (.inr x0))] [] h (some (.inl q.1), q.2)) (hq : itr3 (F_X10_weighedAt_4 x0 x1 k28 k36) N x2 x3 h = some q) : J κ 4 [(0, .inr (.inr x0)), (1, .inl x1), (2, .inl x2), (3, .inl x3)] [] h (some (.inl q.1), q.2) :=
  itr3_ind (fun self hs x2 x3 h q hq => tF_X10_weighedAt_4 X x0 x1 k28 k36 self x2 x3 h q lx0 hk28 hk36 hs hq) N x2 x3 h q hq
theorem tf_X10_weighedAt {κ : Kx} (X : OK κ cX10_weighedAt 4 (some .int) "StruckWords$Tongue" 1) (x0 : Nat) (x1 : Int32) (h : Hp) (q : (Int32 × Hp)) (lx0 : lay x0 = some (.inl 8)) (hq : f_X10_weighedAt x0 x1 h = some q) : J κ 0 [(0, .inr (.inr x0)), (1, .inl x1)] [] h (some (.inl q.1), q.2) := by
  delta f_X10_weighedAt at hq
  refine J_iconst (pc := 0) X (v := 0) (by decide) dX10_weighedAt_0 ?_
  refine J_istore_n (pc := 1) X (L' := [(2, .inl 0), (0, .inr (.inr x0)), (1, .inl x1)]) (i := 2) rfl (by decide) rfl dX10_weighedAt_1 ?_
  refine J_iconst (pc := 2) X (v := 0) (by decide) dX10_weighedAt_2 ?_
  refine J_istore_n (pc := 3) X (L' := [(3, .inl 0), (2, .inl 0), (0, .inr (.inr x0)), (1, .inl x1)]) (i := 3) rfl (by decide) rfl dX10_weighedAt_3 ?_
  refine J_sub [2, 3, 1, 0] rfl ?_
  refine tL_X10_weighedAt_4 X _ _ _ _ N0 _ _ _ _ lx0 ?_ ?_ hq
  · intro v6 h5 q hq
    refine J_iload_n (pc := 28) X (j := 0) (i := 3) rfl rfl dX10_weighedAt_28 ?_
    obtain rfl := Option.some.inj hq
    exact J_iret (pc := 29) X dX10_weighedAt_29
  · intro h7 q hq
    refine J_aload_n (pc := 36) X (j := 0) (i := 0) rfl rfl dX10_weighedAt_36 ?_
    refine J_getI (pc := 37) X lx0 fl_10_57 dX10_weighedAt_37 ?_
    refine J_iconst (pc := 40) X (v := 1) (by decide) dX10_weighedAt_40 ?_
    refine J_isub (pc := 41) X dX10_weighedAt_41 ?_
    obtain rfl := Option.some.inj hq
    exact J_iret (pc := 42) X dX10_weighedAt_42
theorem m_X10_weighedAt (x0 : Nat) (x1 : Int32) (h : Hp) (q : (Int32 × Hp)) (lx0 : lay x0 = some (.inl 8)) (hq : f_X10_weighedAt x0 x1 h = some q) : ∀ l w, CT l w yX10_weighedAt cX10_weighedAt 4 (some .int) 1 [.inr (.inr x0), .inl x1] h (some (.inl q.1), q.2) :=
  CT_of (L0 := [(0, .inr (.inr x0)), (1, .inl x1)]) (by decide) rfl (Nat.le_of_ble_eq_true rfl) (fun κ X => tf_X10_weighedAt X x0 x1 h q lx0 hq)
theorem tF_X12_putBytes_3 {κ : Kx} (X : OK κ cX12_putBytes 3 (none) "StruckWords" 2) (x1 : Int32) (k27 : Hp → Option Hp) (self : Int32 → Hp → Option Hp) (x2 : Int32) (h : Hp) (q : Hp) (hk27 : ∀ (h : Hp) (q : Hp), k27 h = some q → J κ 27 [] [] h (none, q)) (hself : ∀ (x2 : Int32) (h : Hp) (q : Hp), self x2 h = some q → J κ 3 [(0, .inr (.inr 1)), (1, .inl x1), (2, .inl x2)] [] h (none, q)) (hq : F_X12_putBytes_3 x1 k27 self x2 h = some q) : J κ 3 [(0, .inr (.inr 1)), (1, .inl x1), (2, .inl x2)] [] h (none, q) := by
  delta F_X12_putBytes_3 at hq
  refine J_iload_n (pc := 3) X (j := 2) (i := 2) rfl rfl dX12_putBytes_3 ?_
  refine J_if_lt (pc := 4) (tgt := 27) X dX12_putBytes_4 rfl (fun c1 => ?_) (fun c1 => ?_)
  · have hq := ite_t hq c1
    refine J_sub [] rfl ?_
    exact hk27 _ _ hq
  · have hq := ite_f hq c1
    refine J_aload_n (pc := 7) X (j := 0) (i := 0) rfl rfl dX12_putBytes_7 ?_
    refine J_getF (pc := 8) X (b := 2) ly1 fl_12_14 rfl dX12_putBytes_8 ?_
    refine J_iload_n (pc := 11) X (j := 1) (i := 1) rfl rfl dX12_putBytes_11 ?_
    refine J_iload_n (pc := 12) X (j := 2) (i := 2) rfl rfl dX12_putBytes_12 ?_
    refine J_iushr (pc := 13) X dX12_putBytes_13 ?_
    refine J_sipush (pc := 14) X (v := 255) (by decide) dX12_putBytes_14 ?_
    refine J_iand (pc := 17) X dX12_putBytes_17 ?_
    obtain ⟨h2, hc, hq⟩ := bnv_e hq
    refine J_callV (pc := 18) (as := [.inl ((jushr x1 x2) &&& 255)]) (st := []) (st2 := []) (r1 := (none, h2)) (h2 := h2) (ky := 1) X dX12_putBytes_18 ca_X7_put ci_X7_put cs_X7_put ml_12_173 (by decide) ly2 rfl rfl (m_X7_put _ _ _ _ ly2 hc) rfl rfl (Nat.le_of_ble_eq_true rfl) rfl rfl ?_
    refine J_iinc (pc := 21) X (j := 2) (v := (-8)) (L' := [(2, .inl (x2 + (-8))), (0, .inr (.inr 1)), (1, .inl x1)]) rfl (by decide) (by decide) rfl dX12_putBytes_21 ?_
    refine J_goto (pc := 24) X (tgt := 3) dX12_putBytes_24 rfl ?_
    refine J_sub [1, 2, 0] rfl ?_
    exact hself _ _ _ hq
theorem tL_X12_putBytes_3 {κ : Kx} (X : OK κ cX12_putBytes 3 (none) "StruckWords" 2) (x1 : Int32) (k27 : Hp → Option Hp) (N : Nat) (x2 : Int32) (h : Hp) (q : Hp) (hk27 : ∀ (h : Hp) (q : Hp), k27 h = some q → J κ 27 [] [] h (none, q)) (hq : itr2 (F_X12_putBytes_3 x1 k27) N x2 h = some q) : J κ 3 [(0, .inr (.inr 1)), (1, .inl x1), (2, .inl x2)] [] h (none, q) :=
  itr2_ind (fun self hs x2 h q hq => tF_X12_putBytes_3 X x1 k27 self x2 h q hk27 hs hq) N x2 h q hq
theorem tf_X12_putBytes {κ : Kx} (X : OK κ cX12_putBytes 3 (none) "StruckWords" 2) (x1 : Int32) (h : Hp) (q : Hp) (hq : f_X12_putBytes x1 h = some q) : J κ 0 [(0, .inr (.inr 1)), (1, .inl x1)] [] h (none, q) := by
  delta f_X12_putBytes at hq
  refine J_bipush (pc := 0) X (v := 24) (by decide) dX12_putBytes_0 ?_
  refine J_istore_n (pc := 2) X (L' := [(2, .inl 24), (0, .inr (.inr 1)), (1, .inl x1)]) (i := 2) rfl (by decide) rfl dX12_putBytes_2 ?_
  refine J_sub [1, 2, 0] rfl ?_
  refine tL_X12_putBytes_3 X _ _ N0 _ _ _ ?_ hq
  · intro h3 q hq
    obtain rfl := Option.some.inj hq
    exact J_vret (pc := 27) X dX12_putBytes_27
theorem m_X12_putBytes (x1 : Int32) (h : Hp) (q : Hp) (hq : f_X12_putBytes x1 h = some q) : ∀ l w, CT l w yX12_putBytes cX12_putBytes 3 (none) 2 [.inr (.inr 1), .inl x1] h (none, q) :=
  CT_of (L0 := [(0, .inr (.inr 1)), (1, .inl x1)]) (by decide) rfl (Nat.le_of_ble_eq_true rfl) (fun κ X => tf_X12_putBytes X x1 h q  hq)
theorem tf_X12_feed {κ : Kx} (X : OK κ cX12_feed 6 (some .int) "StruckWords" 3) (x1 : Int32) (x2 : Int32) (x3 : Int32) (x4 : Int32) (x5 : Int32) (h : Hp) (q : (Int32 × Hp)) (hq : f_X12_feed x1 x2 x3 x4 x5 h = some q) : J κ 0 [(0, .inr (.inr 1)), (1, .inl x1), (2, .inl x2), (3, .inl x3), (4, .inl x4), (5, .inl x5)] [] h (some (.inl q.1), q.2) := by
  delta f_X12_feed at hq
  refine J_aload_n (pc := 0) X (j := 0) (i := 0) rfl rfl dX12_feed_0 ?_
  refine J_getF (pc := 1) X (b := 2) ly1 fl_12_14 rfl dX12_feed_1 ?_
  refine J_getI (pc := 4) X ly2 fl_12_74 dX12_feed_4 ?_
  refine J_bipush (pc := 7) X (v := 20) (by decide) dX12_feed_7 ?_
  refine J_iadd (pc := 9) X dX12_feed_9 ?_
  refine J_sipush (pc := 10) X (v := 940) (by decide) dX12_feed_10 ?_
  refine J_icmp_le (pc := 13) (tgt := 18) X dX12_feed_13 rfl (fun c1 => ?_) (fun c1 => ?_)
  · have hq := ite_t hq c1
    refine J_aload_n (pc := 18) X (j := 0) (i := 0) rfl rfl dX12_feed_18 ?_
    refine J_iload_n (pc := 19) X (j := 1) (i := 1) rfl rfl dX12_feed_19 ?_
    obtain ⟨h2, hc, hq⟩ := bnv_e hq
    refine J_callV (pc := 20) (as := [.inl x1]) (st := []) (st2 := []) (r1 := (none, h2)) (h2 := h2) (ky := 2) X dX12_feed_20 ca_X12_putBytes ci_X12_putBytes cs_X12_putBytes ml_12_78 (by decide) ly1 rfl rfl (m_X12_putBytes _ _ _ hc) rfl rfl (Nat.le_of_ble_eq_true rfl) rfl rfl ?_
    refine J_aload_n (pc := 23) X (j := 0) (i := 0) rfl rfl dX12_feed_23 ?_
    refine J_iload_n (pc := 24) X (j := 2) (i := 2) rfl rfl dX12_feed_24 ?_
    obtain ⟨h3, hc, hq⟩ := bnv_e hq
    refine J_callV (pc := 25) (as := [.inl x2]) (st := []) (st2 := []) (r1 := (none, h3)) (h2 := h3) (ky := 2) X dX12_feed_25 ca_X12_putBytes ci_X12_putBytes cs_X12_putBytes ml_12_78 (by decide) ly1 rfl rfl (m_X12_putBytes _ _ _ hc) rfl rfl (Nat.le_of_ble_eq_true rfl) rfl rfl ?_
    refine J_aload_n (pc := 28) X (j := 0) (i := 0) rfl rfl dX12_feed_28 ?_
    refine J_iload_n (pc := 29) X (j := 3) (i := 3) rfl rfl dX12_feed_29 ?_
    obtain ⟨h4, hc, hq⟩ := bnv_e hq
    refine J_callV (pc := 30) (as := [.inl x3]) (st := []) (st2 := []) (r1 := (none, h4)) (h2 := h4) (ky := 2) X dX12_feed_30 ca_X12_putBytes ci_X12_putBytes cs_X12_putBytes ml_12_78 (by decide) ly1 rfl rfl (m_X12_putBytes _ _ _ hc) rfl rfl (Nat.le_of_ble_eq_true rfl) rfl rfl ?_
    refine J_aload_n (pc := 33) X (j := 0) (i := 0) rfl rfl dX12_feed_33 ?_
    refine J_iload (pc := 34) X (j := 4) rfl dX12_feed_34 ?_
    obtain ⟨h5, hc, hq⟩ := bnv_e hq
    refine J_callV (pc := 36) (as := [.inl x4]) (st := []) (st2 := []) (r1 := (none, h5)) (h2 := h5) (ky := 2) X dX12_feed_36 ca_X12_putBytes ci_X12_putBytes cs_X12_putBytes ml_12_78 (by decide) ly1 rfl rfl (m_X12_putBytes _ _ _ hc) rfl rfl (Nat.le_of_ble_eq_true rfl) rfl rfl ?_
    refine J_aload_n (pc := 39) X (j := 0) (i := 0) rfl rfl dX12_feed_39 ?_
    refine J_iload (pc := 40) X (j := 5) rfl dX12_feed_40 ?_
    obtain ⟨h6, hc, hq⟩ := bnv_e hq
    refine J_callV (pc := 42) (as := [.inl x5]) (st := []) (st2 := []) (r1 := (none, h6)) (h2 := h6) (ky := 2) X dX12_feed_42 ca_X12_putBytes ci_X12_putBytes cs_X12_putBytes ml_12_78 (by decide) ly1 rfl rfl (m_X12_putBytes _ _ _ hc) rfl rfl (Nat.le_of_ble_eq_true rfl) rfl rfl ?_
    refine J_aload_n (pc := 45) X (j := 0) (i := 0) rfl rfl dX12_feed_45 ?_
    refine J_getF (pc := 46) X (b := 2) ly1 fl_12_14 rfl dX12_feed_46 ?_
    refine J_getI (pc := 49) X ly2 fl_12_74 dX12_feed_49 ?_
    obtain rfl := Option.some.inj hq
    exact J_iret (pc := 52) X dX12_feed_52
  · have hq := ite_f hq c1
    refine J_iconst (pc := 16) X (v := (-1)) (by decide) dX12_feed_16 ?_
    obtain rfl := Option.some.inj hq
    exact J_iret (pc := 17) X dX12_feed_17
theorem m_X12_feed (x1 : Int32) (x2 : Int32) (x3 : Int32) (x4 : Int32) (x5 : Int32) (h : Hp) (q : (Int32 × Hp)) (hq : f_X12_feed x1 x2 x3 x4 x5 h = some q) : ∀ l w, CT l w yX12_feed cX12_feed 6 (some .int) 3 [.inr (.inr 1), .inl x1, .inl x2, .inl x3, .inl x4, .inl x5] h (some (.inl q.1), q.2) :=
  CT_of (L0 := [(0, .inr (.inr 1)), (1, .inl x1), (2, .inl x2), (3, .inl x3), (4, .inl x4), (5, .inl x5)]) (by decide) rfl (Nat.le_of_ble_eq_true rfl) (fun κ X => tf_X12_feed X x1 x2 x3 x4 x5 h q  hq)
theorem tf_X12_end {κ : Kx} (X : OK κ cX12_end 2 (some .boolean) "StruckWords" 1) (x1 : Int32) (h : Hp) (q : (Int32 × Hp)) (hq : f_X12_end x1 h = some q) : J κ 0 [(0, .inr (.inr 1)), (1, .inl x1)] [] h (some (.inl q.1), q.2) := by
  delta f_X12_end at hq
  refine J_iload_n (pc := 0) X (j := 1) (i := 1) rfl rfl dX12_end_0 ?_
  refine J_if_lt (pc := 1) (tgt := 15) X dX12_end_1 rfl (fun c1 => ?_) (fun c1 => ?_)
  · have hq := ite_t hq c1
    refine J_iconst (pc := 15) X (v := 0) (by decide) dX12_end_15 ?_
    obtain rfl := Option.some.inj hq
    exact J_zret (pc := 16) X (by decide) dX12_end_16
  · have hq := ite_f hq c1
    refine J_iload_n (pc := 4) X (j := 1) (i := 1) rfl rfl dX12_end_4 ?_
    refine J_aload_n (pc := 5) X (j := 0) (i := 0) rfl rfl dX12_end_5 ?_
    refine J_getF (pc := 6) X (b := 2) ly1 fl_12_14 rfl dX12_end_6 ?_
    refine J_getI (pc := 9) X ly2 fl_12_74 dX12_end_9 ?_
    refine J_icmp_le (pc := 12) (tgt := 17) X dX12_end_12 rfl (fun c2 => ?_) (fun c2 => ?_)
    · have hq := ite_t hq c2
      refine J_aload_n (pc := 17) X (j := 0) (i := 0) rfl rfl dX12_end_17 ?_
      refine J_getF (pc := 18) X (b := 2) ly1 fl_12_14 rfl dX12_end_18 ?_
      refine J_iload_n (pc := 21) X (j := 1) (i := 1) rfl rfl dX12_end_21 ?_
      refine J_putI (pc := 22) X ly2 fp_12_74 dX12_end_22 ?_
      refine J_ltH hq (fun h3 hq => ?_)
      refine J_iconst (pc := 25) X (v := 1) (by decide) dX12_end_25 ?_
      obtain rfl := Option.some.inj hq
      exact J_zret (pc := 26) X (by decide) dX12_end_26
    · have hq := ite_f hq c2
      refine J_iconst (pc := 15) X (v := 0) (by decide) dX12_end_15 ?_
      obtain rfl := Option.some.inj hq
      exact J_zret (pc := 16) X (by decide) dX12_end_16
theorem m_X12_end (x1 : Int32) (h : Hp) (q : (Int32 × Hp)) (hq : f_X12_end x1 h = some q) : ∀ l w, CT l w yX12_end cX12_end 2 (some .boolean) 1 [.inr (.inr 1), .inl x1] h (some (.inl q.1), q.2) :=
  CT_of (L0 := [(0, .inr (.inr 1)), (1, .inl x1)]) (by decide) rfl (Nat.le_of_ble_eq_true rfl) (fun κ X => tf_X12_end X x1 h q  hq)
theorem tf_X12_tongue {κ : Kx} (X : OK κ cX12_tongue 2 (some .int) "StruckWords" 7) (h : Hp) (q : (Int32 × Hp)) (hq : f_X12_tongue h = some q) : J κ 0 [(0, .inr (.inr 1))] [] h (some (.inl q.1), q.2) := by
  delta f_X12_tongue at hq
  refine J_aload_n (pc := 0) X (j := 0) (i := 0) rfl rfl dX12_tongue_0 ?_
  refine J_getF (pc := 1) X (b := 4) ly1 fl_12_21 rfl dX12_tongue_1 ?_
  refine J_aload_n (pc := 4) X (j := 0) (i := 0) rfl rfl dX12_tongue_4 ?_
  refine J_getF (pc := 5) X (b := 2) ly1 fl_12_14 rfl dX12_tongue_5 ?_
  refine J_aload_n (pc := 8) X (j := 0) (i := 0) rfl rfl dX12_tongue_8 ?_
  refine J_getF (pc := 9) X (b := 142) ly1 fl_12_67 rfl dX12_tongue_9 ?_
  obtain ⟨v2, h1, hc, hq⟩ := bnd_e hq
  refine J_callV (pc := 12) (as := [.inr (.inr 2), .inr (.inr 142)]) (st := []) (st2 := [.inl v2]) (r1 := (some (.inl v2), h1)) (h2 := h1) (ky := 6) X dX12_tongue_12 ca_X6_readTongue ci_X6_readTongue cs_X6_readTongue ml_12_81 (by decide) ly4 rfl rfl (m_X6_readTongue _ _ _ _ ly2 ly142 hc) rfl rfl (Nat.le_of_ble_eq_true rfl) rfl rfl ?_
  refine J_istore_n (pc := 15) X (L' := [(1, .inl v2), (0, .inr (.inr 1))]) (i := 1) rfl (by decide) rfl dX12_tongue_15 ?_
  refine J_aload_n (pc := 16) X (j := 1) (i := 0) rfl rfl dX12_tongue_16 ?_
  refine J_getF (pc := 17) X (b := 2) ly1 fl_12_14 rfl dX12_tongue_17 ?_
  refine J_iconst (pc := 20) X (v := 0) (by decide) dX12_tongue_20 ?_
  refine J_putI (pc := 21) X ly2 fp_12_74 dX12_tongue_21 ?_
  refine J_ltH hq (fun h3 hq => ?_)
  refine J_aload_n (pc := 24) X (j := 1) (i := 0) rfl rfl dX12_tongue_24 ?_
  refine J_aload_n (pc := 25) X (j := 1) (i := 0) rfl rfl dX12_tongue_25 ?_
  refine J_getF (pc := 26) X (b := 4) ly1 fl_12_21 rfl dX12_tongue_26 ?_
  refine J_getI (pc := 29) X ly4 fl_12_85 dX12_tongue_29 ?_
  refine J_putI (pc := 32) X ly1 fp_12_88 dX12_tongue_32 ?_
  refine J_ltH hq (fun h4 hq => ?_)
  refine J_iload_n (pc := 35) X (j := 0) (i := 1) rfl rfl dX12_tongue_35 ?_
  refine J_if_lt (pc := 36) (tgt := 50) X dX12_tongue_36 rfl (fun c5 => ?_) (fun c5 => ?_)
  · have hq := ite_t hq c5
    refine J_iload_n (pc := 50) X (j := 0) (i := 1) rfl rfl dX12_tongue_50 ?_
    obtain rfl := Option.some.inj hq
    exact J_iret (pc := 51) X dX12_tongue_51
  · have hq := ite_f hq c5
    refine J_aload_n (pc := 39) X (j := 1) (i := 0) rfl rfl dX12_tongue_39 ?_
    refine J_getF (pc := 40) X (b := 6) ly1 fl_12_28 rfl dX12_tongue_40 ?_
    refine J_aload_n (pc := 43) X (j := 1) (i := 0) rfl rfl dX12_tongue_43 ?_
    refine J_getF (pc := 44) X (b := 142) ly1 fl_12_67 rfl dX12_tongue_44 ?_
    obtain ⟨h6, hc, hq⟩ := bnv_e hq
    refine J_callV (pc := 47) (as := [.inr (.inr 142)]) (st := []) (st2 := []) (r1 := (none, h6)) (h2 := h6) (ky := 4) X dX12_tongue_47 ca_X5_begin ci_X5_begin cs_X5_begin ml_12_91 (by decide) ly6 rfl rfl (m_X5_begin _ _ _ _ ly6 ly142 hc) rfl rfl (Nat.le_of_ble_eq_true rfl) rfl rfl ?_
    refine J_iload_n (pc := 50) X (j := 0) (i := 1) rfl rfl dX12_tongue_50 ?_
    obtain rfl := Option.some.inj hq
    exact J_iret (pc := 51) X dX12_tongue_51
theorem m_X12_tongue (h : Hp) (q : (Int32 × Hp)) (hq : f_X12_tongue  h = some q) : ∀ l w, CT l w yX12_tongue cX12_tongue 2 (some .int) 7 [.inr (.inr 1)] h (some (.inl q.1), q.2) :=
  CT_of (L0 := [(0, .inr (.inr 1))]) (by decide) rfl (Nat.le_of_ble_eq_true rfl) (fun κ X => tf_X12_tongue X  h q  hq)
theorem tf_X12_fault {κ : Kx} (X : OK κ cX12_fault 1 (some .int) "StruckWords" 1) (h : Hp) (q : (Int32 × Hp)) (hq : f_X12_fault h = some q) : J κ 0 [(0, .inr (.inr 1))] [] h (some (.inl q.1), q.2) := by
  delta f_X12_fault at hq
  refine J_aload_n (pc := 0) X (j := 0) (i := 0) rfl rfl dX12_fault_0 ?_
  refine J_getI (pc := 1) X ly1 fl_12_88 dX12_fault_1 ?_
  obtain rfl := Option.some.inj hq
  exact J_iret (pc := 4) X dX12_fault_4
theorem m_X12_fault (h : Hp) (q : (Int32 × Hp)) (hq : f_X12_fault  h = some q) : ∀ l w, CT l w yX12_fault cX12_fault 1 (some .int) 1 [.inr (.inr 1)] h (some (.inl q.1), q.2) :=
  CT_of (L0 := [(0, .inr (.inr 1))]) (by decide) rfl (Nat.le_of_ble_eq_true rfl) (fun κ X => tf_X12_fault X  h q  hq)
theorem tf_X12_isMeaning {κ : Kx} (X : OK κ cX12_isMeaning 1 (some .boolean) "StruckWords" 1) (x0 : Int32) (h : Hp) (q : (Int32 × Hp)) (hq : f_X12_isMeaning x0 h = some q) : J κ 0 [(0, .inl x0)] [] h (some (.inl q.1), q.2) := by
  delta f_X12_isMeaning at hq
  refine J_iload_n (pc := 0) X (j := 0) (i := 0) rfl rfl dX12_isMeaning_0 ?_
  refine J_if_lt (pc := 1) (tgt := 14) X dX12_isMeaning_1 rfl (fun c1 => ?_) (fun c1 => ?_)
  · have hq := ite_t hq c1
    refine J_iconst (pc := 14) X (v := 0) (by decide) dX12_isMeaning_14 ?_
    obtain rfl := Option.some.inj hq
    exact J_zret (pc := 15) X (by decide) dX12_isMeaning_15
  · have hq := ite_f hq c1
    refine J_iload_n (pc := 4) X (j := 0) (i := 0) rfl rfl dX12_isMeaning_4 ?_
    refine J_bipush (pc := 5) X (v := 8) (by decide) dX12_isMeaning_5 ?_
    refine J_icmp_ge (pc := 7) (tgt := 14) X dX12_isMeaning_7 rfl (fun c2 => ?_) (fun c2 => ?_)
    · have hq := ite_t hq c2
      refine J_iconst (pc := 14) X (v := 0) (by decide) dX12_isMeaning_14 ?_
      obtain rfl := Option.some.inj hq
      exact J_zret (pc := 15) X (by decide) dX12_isMeaning_15
    · have hq := ite_f hq c2
      refine J_iconst (pc := 10) X (v := 1) (by decide) dX12_isMeaning_10 ?_
      refine J_goto (pc := 11) X (tgt := 15) dX12_isMeaning_11 rfl ?_
      obtain rfl := Option.some.inj hq
      exact J_zret (pc := 15) X (by decide) dX12_isMeaning_15
theorem m_X12_isMeaning (x0 : Int32) (h : Hp) (q : (Int32 × Hp)) (hq : f_X12_isMeaning x0 h = some q) : ∀ l w, CT l w yX12_isMeaning cX12_isMeaning 1 (some .boolean) 1 [.inl x0] h (some (.inl q.1), q.2) :=
  CT_of (L0 := [(0, .inl x0)]) (by decide) rfl (Nat.le_of_ble_eq_true rfl) (fun κ X => tf_X12_isMeaning X x0 h q  hq)
theorem tf_X12_becomes {κ : Kx} (X : OK κ cX12_becomes 5 (some .int) "StruckWords" 2) (x1 : Int32) (x2 : Int32) (x3 : Int32) (h : Hp) (q : (Int32 × Hp)) (hq : f_X12_becomes x1 x2 x3 h = some q) : J κ 0 [(0, .inr (.inr 1)), (1, .inl x1), (2, .inl x2), (3, .inl x3)] [] h (some (.inl q.1), q.2) := by
  delta f_X12_becomes at hq
  refine J_aload_n (pc := 0) X (j := 0) (i := 0) rfl rfl dX12_becomes_0 ?_
  refine J_getF (pc := 1) X (b := 6) ly1 fl_12_28 rfl dX12_becomes_1 ?_
  refine J_getF (pc := 4) X (b := 7) ly6 fl_12_95 rfl dX12_becomes_4 ?_
  refine J_astore (pc := 7) X (L' := [(4, .inr (.inr 7)), (0, .inr (.inr 1)), (1, .inl x1), (2, .inl x2), (3, .inl x3)]) (by decide) rfl dX12_becomes_7 ?_
  refine J_iload_n (pc := 9) X (j := 4) (i := 3) rfl rfl dX12_becomes_9 ?_
  obtain ⟨v2, h1, hc, hq⟩ := bnd_e hq
  refine J_callS (pc := 10) (as := [.inl x3]) (st := []) (st2 := [.inl v2]) (r1 := (some (.inl v2), h1)) (h2 := h1) (ky := 1) X dX12_becomes_10 ca_X12_isMeaning cz_X12_isMeaning ml_12_131 (by decide) (m_X12_isMeaning _ _ _ hc) rfl rfl (Nat.le_of_ble_eq_true rfl) rfl rfl ?_
  refine J_if_eq (pc := 13) (tgt := 44) X dX12_becomes_13 rfl (fun c3 => ?_) (fun c3 => ?_)
  · have hq := ite_t hq c3
    refine J_iconst (pc := 44) X (v := (-1)) (by decide) dX12_becomes_44 ?_
    obtain rfl := Option.some.inj hq
    exact J_iret (pc := 45) X dX12_becomes_45
  · have hq := ite_f hq c3
    refine J_aload (pc := 16) X (j := 0) rfl dX12_becomes_16 ?_
    refine J_iload_n (pc := 18) X (j := 2) (i := 1) rfl rfl dX12_becomes_18 ?_
    obtain ⟨v5, h4, hc, hq⟩ := bnd_e hq
    refine J_callV (pc := 19) (as := [.inl x1]) (st := []) (st2 := [.inl v5]) (r1 := (some (.inl v5), h4)) (h2 := h4) (ky := 1) X dX12_becomes_19 ca_X10_hasSaying ci_X10_hasSaying cs_X10_hasSaying ml_12_98 (by decide) ly7 rfl rfl (m_X10_hasSaying _ _ _ _ ly7 hc) rfl rfl (Nat.le_of_ble_eq_true rfl) rfl rfl ?_
    refine J_if_eq (pc := 22) (tgt := 44) X dX12_becomes_22 rfl (fun c6 => ?_) (fun c6 => ?_)
    · have hq := ite_t hq c6
      refine J_iconst (pc := 44) X (v := (-1)) (by decide) dX12_becomes_44 ?_
      obtain rfl := Option.some.inj hq
      exact J_iret (pc := 45) X dX12_becomes_45
    · have hq := ite_f hq c6
      refine J_aload (pc := 25) X (j := 0) rfl dX12_becomes_25 ?_
      refine J_iload_n (pc := 27) X (j := 3) (i := 2) rfl rfl dX12_becomes_27 ?_
      obtain ⟨v8, h7, hc, hq⟩ := bnd_e hq
      refine J_callV (pc := 28) (as := [.inl x2]) (st := []) (st2 := [.inl v8]) (r1 := (some (.inl v8), h7)) (h2 := h7) (ky := 1) X dX12_becomes_28 ca_X10_hasSort ci_X10_hasSort cs_X10_hasSort ml_12_134 (by decide) ly7 rfl rfl (m_X10_hasSort _ _ _ _ ly7 hc) rfl rfl (Nat.le_of_ble_eq_true rfl) rfl rfl ?_
      refine J_if_eq (pc := 31) (tgt := 44) X dX12_becomes_31 rfl (fun c9 => ?_) (fun c9 => ?_)
      · have hq := ite_t hq c9
        refine J_iconst (pc := 44) X (v := (-1)) (by decide) dX12_becomes_44 ?_
        obtain rfl := Option.some.inj hq
        exact J_iret (pc := 45) X dX12_becomes_45
      · have hq := ite_f hq c9
        refine J_aload (pc := 34) X (j := 0) rfl dX12_becomes_34 ?_
        refine J_iload_n (pc := 36) X (j := 2) (i := 1) rfl rfl dX12_becomes_36 ?_
        refine J_iload_n (pc := 37) X (j := 3) (i := 2) rfl rfl dX12_becomes_37 ?_
        obtain ⟨v11, h10, hc, hq⟩ := bnd_e hq
        refine J_callV (pc := 38) (as := [.inl x1, .inl x2]) (st := []) (st2 := [.inl v11]) (r1 := (some (.inl v11), h10)) (h2 := h10) (ky := 1) X dX12_becomes_38 ca_X10_readsAs ci_X10_readsAs cs_X10_readsAs ml_12_137 (by decide) ly7 rfl rfl (m_X10_readsAs _ _ _ _ _ ly7 hc) rfl rfl (Nat.le_of_ble_eq_true rfl) rfl rfl ?_
        refine J_if_ne (pc := 41) (tgt := 46) X dX12_becomes_41 rfl (fun c12 => ?_) (fun c12 => ?_)
        · have hq := ite_f hq c12
          refine J_aload (pc := 46) X (j := 0) rfl dX12_becomes_46 ?_
          refine J_iload_n (pc := 48) X (j := 2) (i := 1) rfl rfl dX12_becomes_48 ?_
          refine J_iload_n (pc := 49) X (j := 3) (i := 2) rfl rfl dX12_becomes_49 ?_
          refine J_iload_n (pc := 50) X (j := 4) (i := 3) rfl rfl dX12_becomes_50 ?_
          obtain ⟨v14, h13, hc, hq⟩ := bnd_e hq
          refine J_callV (pc := 51) (as := [.inl x1, .inl x2, .inl x3]) (st := []) (st2 := [.inl v14]) (r1 := (some (.inl v14), h13)) (h2 := h13) (ky := 1) X dX12_becomes_51 ca_X10_made ci_X10_made cs_X10_made ml_12_141 (by decide) ly7 rfl rfl (m_X10_made _ _ _ _ _ _ ly7 hc) rfl rfl (Nat.le_of_ble_eq_true rfl) rfl rfl ?_
          obtain rfl := Option.some.inj hq
          exact J_iret (pc := 54) X dX12_becomes_54
        · have hq := ite_t hq c12
          refine J_iconst (pc := 44) X (v := (-1)) (by decide) dX12_becomes_44 ?_
          obtain rfl := Option.some.inj hq
          exact J_iret (pc := 45) X dX12_becomes_45
theorem m_X12_becomes (x1 : Int32) (x2 : Int32) (x3 : Int32) (h : Hp) (q : (Int32 × Hp)) (hq : f_X12_becomes x1 x2 x3 h = some q) : ∀ l w, CT l w yX12_becomes cX12_becomes 5 (some .int) 2 [.inr (.inr 1), .inl x1, .inl x2, .inl x3] h (some (.inl q.1), q.2) :=
  CT_of (L0 := [(0, .inr (.inr 1)), (1, .inl x1), (2, .inl x2), (3, .inl x3)]) (by decide) rfl (Nat.le_of_ble_eq_true rfl) (fun κ X => tf_X12_becomes X x1 x2 x3 h q  hq)
theorem tf_X12_text {κ : Kx} (X : OK κ cX12_text 2 (some .int) "StruckWords" 6) (h : Hp) (q : (Int32 × Hp)) (hq : f_X12_text h = some q) : J κ 0 [(0, .inr (.inr 1))] [] h (some (.inl q.1), q.2) := by
  delta f_X12_text at hq
  refine J_aload_n (pc := 0) X (j := 0) (i := 0) rfl rfl dX12_text_0 ?_
  refine J_getF (pc := 1) X (b := 4) ly1 fl_12_21 rfl dX12_text_1 ?_
  refine J_aload_n (pc := 4) X (j := 0) (i := 0) rfl rfl dX12_text_4 ?_
  refine J_getF (pc := 5) X (b := 2) ly1 fl_12_14 rfl dX12_text_5 ?_
  refine J_aload_n (pc := 8) X (j := 0) (i := 0) rfl rfl dX12_text_8 ?_
  refine J_getF (pc := 9) X (b := 6) ly1 fl_12_28 rfl dX12_text_9 ?_
  refine J_getF (pc := 12) X (b := 7) ly6 fl_12_95 rfl dX12_text_12 ?_
  refine J_aload_n (pc := 15) X (j := 0) (i := 0) rfl rfl dX12_text_15 ?_
  refine J_getF (pc := 16) X (b := 153) ly1 fl_12_71 rfl dX12_text_16 ?_
  obtain ⟨v2, h1, hc, hq⟩ := bnd_e hq
  refine J_callV (pc := 19) (as := [.inr (.inr 2), .inr (.inr 7), .inr (.inr 153)]) (st := []) (st2 := [.inl v2]) (r1 := (some (.inl v2), h1)) (h2 := h1) (ky := 5) X dX12_text_19 ca_X6_readText ci_X6_readText cs_X6_readText ml_12_145 (by decide) ly4 rfl rfl (m_X6_readText _ _ _ _ _ ly2 ly7 ly153 hc) rfl rfl (Nat.le_of_ble_eq_true rfl) rfl rfl ?_
  refine J_istore_n (pc := 22) X (L' := [(1, .inl v2), (0, .inr (.inr 1))]) (i := 1) rfl (by decide) rfl dX12_text_22 ?_
  refine J_aload_n (pc := 23) X (j := 1) (i := 0) rfl rfl dX12_text_23 ?_
  refine J_getF (pc := 24) X (b := 2) ly1 fl_12_14 rfl dX12_text_24 ?_
  refine J_iconst (pc := 27) X (v := 0) (by decide) dX12_text_27 ?_
  refine J_putI (pc := 28) X ly2 fp_12_74 dX12_text_28 ?_
  refine J_ltH hq (fun h3 hq => ?_)
  refine J_aload_n (pc := 31) X (j := 1) (i := 0) rfl rfl dX12_text_31 ?_
  refine J_aload_n (pc := 32) X (j := 1) (i := 0) rfl rfl dX12_text_32 ?_
  refine J_getF (pc := 33) X (b := 4) ly1 fl_12_21 rfl dX12_text_33 ?_
  refine J_getI (pc := 36) X ly4 fl_12_85 dX12_text_36 ?_
  refine J_putI (pc := 39) X ly1 fp_12_88 dX12_text_39 ?_
  refine J_ltH hq (fun h4 hq => ?_)
  refine J_iload_n (pc := 42) X (j := 0) (i := 1) rfl rfl dX12_text_42 ?_
  refine J_if_lt (pc := 43) (tgt := 60) X dX12_text_43 rfl (fun c5 => ?_) (fun c5 => ?_)
  · have hq := ite_t hq c5
    refine J_iload_n (pc := 60) X (j := 0) (i := 1) rfl rfl dX12_text_60 ?_
    obtain rfl := Option.some.inj hq
    exact J_iret (pc := 61) X dX12_text_61
  · have hq := ite_f hq c5
    refine J_aload_n (pc := 46) X (j := 1) (i := 0) rfl rfl dX12_text_46 ?_
    refine J_getF (pc := 47) X (b := 6) ly1 fl_12_28 rfl dX12_text_47 ?_
    refine J_getF (pc := 50) X (b := 18) ly6 fl_12_149 rfl dX12_text_50 ?_
    refine J_aload_n (pc := 53) X (j := 1) (i := 0) rfl rfl dX12_text_53 ?_
    refine J_getF (pc := 54) X (b := 153) ly1 fl_12_71 rfl dX12_text_54 ?_
    obtain ⟨h6, hc, hq⟩ := bnv_e hq
    refine J_callV (pc := 57) (as := [.inr (.inr 153)]) (st := []) (st2 := []) (r1 := (none, h6)) (h2 := h6) (ky := 3) X dX12_text_57 ca_X7_copyFrom ci_X7_copyFrom cs_X7_copyFrom ml_12_152 (by decide) ly18 rfl rfl (m_X7_copyFrom _ _ _ _ ly18 ly153 hc) rfl rfl (Nat.le_of_ble_eq_true rfl) rfl rfl ?_
    refine J_iload_n (pc := 60) X (j := 0) (i := 1) rfl rfl dX12_text_60 ?_
    obtain rfl := Option.some.inj hq
    exact J_iret (pc := 61) X dX12_text_61
theorem m_X12_text (h : Hp) (q : (Int32 × Hp)) (hq : f_X12_text  h = some q) : ∀ l w, CT l w yX12_text cX12_text 2 (some .int) 6 [.inr (.inr 1)] h (some (.inl q.1), q.2) :=
  CT_of (L0 := [(0, .inr (.inr 1))]) (by decide) rfl (Nat.le_of_ble_eq_true rfl) (fun κ X => tf_X12_text X  h q  hq)
theorem tF_X12_rowFromTape_33 {κ : Kx} (X : OK κ cX12_rowFromTape 4 (some .boolean) "StruckWords" 2) (x2 : Int32) (k60 : Hp → Option (Int32 × Hp)) (k84 : Hp → Option (Int32 × Hp)) (self : Int32 → Hp → Option (Int32 × Hp)) (x3 : Int32) (h : Hp) (q : (Int32 × Hp)) (hk60 : ∀ (h : Hp) (q : (Int32 × Hp)), k60 h = some q → J κ 60 [] [] h (some (.inl q.1), q.2)) (hk84 : ∀ (h : Hp) (q : (Int32 × Hp)), k84 h = some q → J κ 84 [] [] h (some (.inl q.1), q.2)) (hself : ∀ (x3 : Int32) (h : Hp) (q : (Int32 × Hp)), self x3 h = some q → J κ 33 [(0, .inr (.inr 1)), (2, .inl x2), (3, .inl x3)] [] h (some (.inl q.1), q.2)) (hq : F_X12_rowFromTape_33 x2 k60 k84 self x3 h = some q) : J κ 33 [(0, .inr (.inr 1)), (2, .inl x2), (3, .inl x3)] [] h (some (.inl q.1), q.2) := by
  delta F_X12_rowFromTape_33 at hq
  refine J_iload_n (pc := 33) X (j := 2) (i := 3) rfl rfl dX12_rowFromTape_33 ?_
  refine J_iload_n (pc := 34) X (j := 1) (i := 2) rfl rfl dX12_rowFromTape_34 ?_
  refine J_icmp_ge (pc := 35) (tgt := 84) X dX12_rowFromTape_35 rfl (fun c5 => ?_) (fun c5 => ?_)
  · have hq := ite_t hq c5
    refine J_sub [] rfl ?_
    exact hk84 _ _ hq
  · have hq := ite_f hq c5
    refine J_aload_n (pc := 38) X (j := 0) (i := 0) rfl rfl dX12_rowFromTape_38 ?_
    refine J_getF (pc := 39) X (b := 6) ly1 fl_12_28 rfl dX12_rowFromTape_39 ?_
    refine J_getF (pc := 42) X (b := 7) ly6 fl_12_95 rfl dX12_rowFromTape_42 ?_
    refine J_aload_n (pc := 45) X (j := 0) (i := 0) rfl rfl dX12_rowFromTape_45 ?_
    refine J_getF (pc := 46) X (b := 2) ly1 fl_12_14 rfl dX12_rowFromTape_46 ?_
    refine J_getF (pc := 49) X (b := 3) ly2 fl_12_226 rfl dX12_rowFromTape_49 ?_
    refine J_iload_n (pc := 52) X (j := 2) (i := 3) rfl rfl dX12_rowFromTape_52 ?_
    obtain ⟨g6, hq⟩ := gd hq
    refine J_iaload (pc := 53) X ly3 g6 dX12_rowFromTape_53 ?_
    obtain ⟨v8, h7, hc, hq⟩ := bnd_e hq
    refine J_callV (pc := 54) (as := [.inl (h.1 3 (x3.toNatClampNeg))]) (st := []) (st2 := [.inl v8]) (r1 := (some (.inl v8), h7)) (h2 := h7) (ky := 1) X dX12_rowFromTape_54 ca_X10_hasSaying ci_X10_hasSaying cs_X10_hasSaying ml_12_98 (by decide) ly7 rfl rfl (m_X10_hasSaying _ _ _ _ ly7 hc) rfl rfl (Nat.le_of_ble_eq_true rfl) rfl rfl ?_
    refine J_if_ne (pc := 57) (tgt := 62) X dX12_rowFromTape_57 rfl (fun c9 => ?_) (fun c9 => ?_)
    · have hq := ite_f hq c9
      refine J_aload_n (pc := 62) X (j := 0) (i := 0) rfl rfl dX12_rowFromTape_62 ?_
      refine J_getF (pc := 63) X (b := 153) ly1 fl_12_71 rfl dX12_rowFromTape_63 ?_
      refine J_aload_n (pc := 66) X (j := 0) (i := 0) rfl rfl dX12_rowFromTape_66 ?_
      refine J_getF (pc := 67) X (b := 2) ly1 fl_12_14 rfl dX12_rowFromTape_67 ?_
      refine J_getF (pc := 70) X (b := 3) ly2 fl_12_226 rfl dX12_rowFromTape_70 ?_
      refine J_iload_n (pc := 73) X (j := 2) (i := 3) rfl rfl dX12_rowFromTape_73 ?_
      obtain ⟨g10, hq⟩ := gd hq
      refine J_iaload (pc := 74) X ly3 g10 dX12_rowFromTape_74 ?_
      obtain ⟨h11, hc, hq⟩ := bnv_e hq
      refine J_callV (pc := 75) (as := [.inl (h7.1 3 (x3.toNatClampNeg))]) (st := []) (st2 := []) (r1 := (none, h11)) (h2 := h11) (ky := 1) X dX12_rowFromTape_75 ca_X7_put ci_X7_put cs_X7_put ml_12_173 (by decide) ly153 rfl rfl (m_X7_put _ _ _ _ ly153 hc) rfl rfl (Nat.le_of_ble_eq_true rfl) rfl rfl ?_
      refine J_iinc (pc := 78) X (j := 2) (v := 1) (L' := [(3, .inl (x3 + 1)), (0, .inr (.inr 1)), (2, .inl x2)]) rfl (by decide) (by decide) rfl dX12_rowFromTape_78 ?_
      refine J_goto (pc := 81) X (tgt := 33) dX12_rowFromTape_81 rfl ?_
      refine J_sub [1, 2, 0] rfl ?_
      exact hself _ _ _ hq
    · have hq := ite_t hq c9
      refine J_sub [] rfl ?_
      exact hk60 _ _ hq
theorem tL_X12_rowFromTape_33 {κ : Kx} (X : OK κ cX12_rowFromTape 4 (some .boolean) "StruckWords" 2) (x2 : Int32) (k60 : Hp → Option (Int32 × Hp)) (k84 : Hp → Option (Int32 × Hp)) (N : Nat) (x3 : Int32) (h : Hp) (q : (Int32 × Hp)) (hk60 : ∀ (h : Hp) (q : (Int32 × Hp)), k60 h = some q → J κ 60 [] [] h (some (.inl q.1), q.2)) (hk84 : ∀ (h : Hp) (q : (Int32 × Hp)), k84 h = some q → J κ 84 [] [] h (some (.inl q.1), q.2)) (hq : itr2 (F_X12_rowFromTape_33 x2 k60 k84) N x3 h = some q) : J κ 33 [(0, .inr (.inr 1)), (2, .inl x2), (3, .inl x3)] [] h (some (.inl q.1), q.2) :=
  itr2_ind (fun self hs x3 h q hq => tF_X12_rowFromTape_33 X x2 k60 k84 self x3 h q hk60 hk84 hs hq) N x3 h q hq
theorem tf_X12_rowFromTape {κ : Kx} (X : OK κ cX12_rowFromTape 4 (some .boolean) "StruckWords" 2) (x1 : Int32) (h : Hp) (q : (Int32 × Hp)) (hq : f_X12_rowFromTape x1 h = some q) : J κ 0 [(0, .inr (.inr 1)), (1, .inl x1)] [] h (some (.inl q.1), q.2) := by
  delta f_X12_rowFromTape at hq
  refine J_aload_n (pc := 0) X (j := 0) (i := 0) rfl rfl dX12_rowFromTape_0 ?_
  refine J_getF (pc := 1) X (b := 2) ly1 fl_12_14 rfl dX12_rowFromTape_1 ?_
  refine J_getI (pc := 4) X ly2 fl_12_74 dX12_rowFromTape_4 ?_
  refine J_ltI hq (fun v1 hq => ?_)
  refine J_istore_n (pc := 7) X (L' := [(2, .inl v1), (0, .inr (.inr 1)), (1, .inl x1)]) (i := 2) rfl (by decide) rfl dX12_rowFromTape_7 ?_
  refine J_aload_n (pc := 8) X (j := 1) (i := 0) rfl rfl dX12_rowFromTape_8 ?_
  refine J_getF (pc := 9) X (b := 2) ly1 fl_12_14 rfl dX12_rowFromTape_9 ?_
  refine J_iconst (pc := 12) X (v := 0) (by decide) dX12_rowFromTape_12 ?_
  refine J_putI (pc := 13) X ly2 fp_12_74 dX12_rowFromTape_13 ?_
  refine J_ltH hq (fun h2 hq => ?_)
  refine J_aload_n (pc := 16) X (j := 1) (i := 0) rfl rfl dX12_rowFromTape_16 ?_
  refine J_getF (pc := 17) X (b := 153) ly1 fl_12_71 rfl dX12_rowFromTape_17 ?_
  refine J_iconst (pc := 20) X (v := 0) (by decide) dX12_rowFromTape_20 ?_
  refine J_putI (pc := 21) X ly153 fp_12_74 dX12_rowFromTape_21 ?_
  refine J_ltH hq (fun h3 hq => ?_)
  refine J_iload_n (pc := 24) X (j := 0) (i := 2) rfl rfl dX12_rowFromTape_24 ?_
  refine J_iload_n (pc := 25) X (j := 2) (i := 1) rfl rfl dX12_rowFromTape_25 ?_
  refine J_icmp_le (pc := 26) (tgt := 31) X dX12_rowFromTape_26 rfl (fun c4 => ?_) (fun c4 => ?_)
  · have hq := ite_t hq c4
    refine J_iconst (pc := 31) X (v := 0) (by decide) dX12_rowFromTape_31 ?_
    refine J_istore_n (pc := 32) X (L' := [(3, .inl 0), (2, .inl v1), (0, .inr (.inr 1)), (1, .inl x1)]) (i := 3) rfl (by decide) rfl dX12_rowFromTape_32 ?_
    refine J_sub [2, 1, 0] rfl ?_
    refine tL_X12_rowFromTape_33 X _ _ _ N0 _ _ _ ?_ ?_ hq
    · intro h12 q hq
      refine J_iconst (pc := 60) X (v := 0) (by decide) dX12_rowFromTape_60 ?_
      obtain rfl := Option.some.inj hq
      exact J_zret (pc := 61) X (by decide) dX12_rowFromTape_61
    · intro h13 q hq
      refine J_iconst (pc := 84) X (v := 1) (by decide) dX12_rowFromTape_84 ?_
      obtain rfl := Option.some.inj hq
      exact J_zret (pc := 85) X (by decide) dX12_rowFromTape_85
  · have hq := ite_f hq c4
    refine J_iconst (pc := 29) X (v := 0) (by decide) dX12_rowFromTape_29 ?_
    obtain rfl := Option.some.inj hq
    exact J_zret (pc := 30) X (by decide) dX12_rowFromTape_30
theorem m_X12_rowFromTape (x1 : Int32) (h : Hp) (q : (Int32 × Hp)) (hq : f_X12_rowFromTape x1 h = some q) : ∀ l w, CT l w yX12_rowFromTape cX12_rowFromTape 4 (some .boolean) 2 [.inr (.inr 1), .inl x1] h (some (.inl q.1), q.2) :=
  CT_of (L0 := [(0, .inr (.inr 1)), (1, .inl x1)]) (by decide) rfl (Nat.le_of_ble_eq_true rfl) (fun κ X => tf_X12_rowFromTape X x1 h q  hq)
theorem tf_X12_lay {κ : Kx} (X : OK κ cX12_lay 2 (some .int) "StruckWords" 4) (h : Hp) (q : (Int32 × Hp)) (hq : f_X12_lay h = some q) : J κ 0 [(0, .inr (.inr 1))] [] h (some (.inl q.1), q.2) := by
  delta f_X12_lay at hq
  refine J_aload_n (pc := 0) X (j := 0) (i := 0) rfl rfl dX12_lay_0 ?_
  refine J_bipush (pc := 1) X (v := 24) (by decide) dX12_lay_1 ?_
  obtain ⟨v2, h1, hc, hq⟩ := bnd_e hq
  refine J_callV (pc := 3) (as := [.inl 24]) (st := []) (st2 := [.inl v2]) (r1 := (some (.inl v2), h1)) (h2 := h1) (ky := 2) X dX12_lay_3 ca_X12_rowFromTape ci_X12_rowFromTape cs_X12_rowFromTape ml_12_156 (by decide) ly1 rfl rfl (m_X12_rowFromTape _ _ _ hc) rfl rfl (Nat.le_of_ble_eq_true rfl) rfl rfl ?_
  refine J_istore_n (pc := 6) X (L' := [(1, .inl v2), (0, .inr (.inr 1))]) (i := 1) rfl (by decide) rfl dX12_lay_6 ?_
  refine J_iload_n (pc := 7) X (j := 0) (i := 1) rfl rfl dX12_lay_7 ?_
  refine J_if_ne (pc := 8) (tgt := 13) X dX12_lay_8 rfl (fun c3 => ?_) (fun c3 => ?_)
  · have hq := ite_f hq c3
    refine J_aload_n (pc := 13) X (j := 1) (i := 0) rfl rfl dX12_lay_13 ?_
    refine J_getF (pc := 14) X (b := 6) ly1 fl_12_28 rfl dX12_lay_14 ?_
    refine J_getF (pc := 17) X (b := 18) ly6 fl_12_149 rfl dX12_lay_17 ?_
    refine J_aload_n (pc := 20) X (j := 1) (i := 0) rfl rfl dX12_lay_20 ?_
    refine J_getF (pc := 21) X (b := 153) ly1 fl_12_71 rfl dX12_lay_21 ?_
    obtain ⟨h4, hc, hq⟩ := bnv_e hq
    refine J_callV (pc := 24) (as := [.inr (.inr 153)]) (st := []) (st2 := []) (r1 := (none, h4)) (h2 := h4) (ky := 3) X dX12_lay_24 ca_X7_copyFrom ci_X7_copyFrom cs_X7_copyFrom ml_12_152 (by decide) ly18 rfl rfl (m_X7_copyFrom _ _ _ _ ly18 ly153 hc) rfl rfl (Nat.le_of_ble_eq_true rfl) rfl rfl ?_
    refine J_aload_n (pc := 27) X (j := 1) (i := 0) rfl rfl dX12_lay_27 ?_
    refine J_getF (pc := 28) X (b := 6) ly1 fl_12_28 rfl dX12_lay_28 ?_
    refine J_getF (pc := 31) X (b := 18) ly6 fl_12_149 rfl dX12_lay_31 ?_
    refine J_getI (pc := 34) X ly18 fl_12_74 dX12_lay_34 ?_
    obtain rfl := Option.some.inj hq
    exact J_iret (pc := 37) X dX12_lay_37
  · have hq := ite_t hq c3
    refine J_iconst (pc := 11) X (v := (-1)) (by decide) dX12_lay_11 ?_
    obtain rfl := Option.some.inj hq
    exact J_iret (pc := 12) X dX12_lay_12
theorem m_X12_lay (h : Hp) (q : (Int32 × Hp)) (hq : f_X12_lay  h = some q) : ∀ l w, CT l w yX12_lay cX12_lay 2 (some .int) 4 [.inr (.inr 1)] h (some (.inl q.1), q.2) :=
  CT_of (L0 := [(0, .inr (.inr 1))]) (by decide) rfl (Nat.le_of_ble_eq_true rfl) (fun κ X => tf_X12_lay X  h q  hq)
theorem tF_X12_alike_23 {κ : Kx} (X : OK κ cX12_alike 5 (some .int) "StruckWords" 2) (x1 : Int32) (k55 : Int32 → Hp → Option (Int32 × Hp)) (self : Int32 → Int32 → Hp → Option (Int32 × Hp)) (x3 : Int32) (x4 : Int32) (h : Hp) (q : (Int32 × Hp)) (hk55 : ∀ (x3 : Int32) (h : Hp) (q : (Int32 × Hp)), k55 x3 h = some q → J κ 55 [(3, .inl x3)] [] h (some (.inl q.1), q.2)) (hself : ∀ (x3 : Int32) (x4 : Int32) (h : Hp) (q : (Int32 × Hp)), self x3 x4 h = some q → J κ 23 [(1, .inl x1), (2, .inr (.inr 7)), (3, .inl x3), (4, .inl x4)] [] h (some (.inl q.1), q.2)) (hq : F_X12_alike_23 x1 k55 self x3 x4 h = some q) : J κ 23 [(1, .inl x1), (2, .inr (.inr 7)), (3, .inl x3), (4, .inl x4)] [] h (some (.inl q.1), q.2) := by
  delta F_X12_alike_23 at hq
  refine J_iload (pc := 23) X (j := 3) rfl dX12_alike_23 ?_
  refine J_aload_n (pc := 25) X (j := 1) (i := 2) rfl rfl dX12_alike_25 ?_
  refine J_getI (pc := 26) X ly7 fl_12_159 dX12_alike_26 ?_
  refine J_icmp_ge (pc := 29) (tgt := 55) X dX12_alike_29 rfl (fun c4 => ?_) (fun c4 => ?_)
  · have hq := ite_t hq c4
    refine J_sub [2] rfl ?_
    exact hk55 _ _ _ hq
  · have hq := ite_f hq c4
    refine J_aload_n (pc := 32) X (j := 1) (i := 2) rfl rfl dX12_alike_32 ?_
    refine J_iload_n (pc := 33) X (j := 0) (i := 1) rfl rfl dX12_alike_33 ?_
    refine J_iload (pc := 34) X (j := 3) rfl dX12_alike_34 ?_
    obtain ⟨v6, h5, hc, hq⟩ := bnd_e hq
    refine J_callV (pc := 36) (as := [.inl x1, .inl x4]) (st := []) (st2 := [.inl v6]) (r1 := (some (.inl v6), h5)) (h2 := h5) (ky := 1) X dX12_alike_36 ca_X10_readAlike ci_X10_readAlike cs_X10_readAlike ml_12_162 (by decide) ly7 rfl rfl (m_X10_readAlike _ _ _ _ _ ly7 hc) rfl rfl (Nat.le_of_ble_eq_true rfl) rfl rfl ?_
    refine J_if_eq (pc := 39) (tgt := 49) X dX12_alike_39 rfl (fun c7 => ?_) (fun c7 => ?_)
    · have hq := ite_t hq c7
      refine J_iinc (pc := 49) X (j := 3) (v := 1) (L' := [(4, .inl (x4 + 1)), (1, .inl x1), (2, .inr (.inr 7)), (3, .inl x3)]) rfl (by decide) (by decide) rfl dX12_alike_49 ?_
      refine J_goto (pc := 52) X (tgt := 23) dX12_alike_52 rfl ?_
      refine J_sub [1, 2, 3, 0] rfl ?_
      exact hself _ _ _ _ hq
    · have hq := ite_f hq c7
      refine J_iload_n (pc := 42) X (j := 2) (i := 3) rfl rfl dX12_alike_42 ?_
      refine J_iconst (pc := 43) X (v := 1) (by decide) dX12_alike_43 ?_
      refine J_iload (pc := 44) X (j := 3) rfl dX12_alike_44 ?_
      refine J_ishl (pc := 46) X dX12_alike_46 ?_
      refine J_ior (pc := 47) X dX12_alike_47 ?_
      refine J_ltI hq (fun v8 hq => ?_)
      refine J_istore_n (pc := 48) X (L' := [(3, .inl v8), (1, .inl x1), (2, .inr (.inr 7)), (4, .inl x4)]) (i := 3) rfl (by decide) rfl dX12_alike_48 ?_
      refine J_iinc (pc := 49) X (j := 3) (v := 1) (L' := [(4, .inl (x4 + 1)), (3, .inl v8), (1, .inl x1), (2, .inr (.inr 7))]) rfl (by decide) (by decide) rfl dX12_alike_49 ?_
      refine J_goto (pc := 52) X (tgt := 23) dX12_alike_52 rfl ?_
      refine J_sub [2, 3, 1, 0] rfl ?_
      exact hself _ _ _ _ hq
theorem tL_X12_alike_23 {κ : Kx} (X : OK κ cX12_alike 5 (some .int) "StruckWords" 2) (x1 : Int32) (k55 : Int32 → Hp → Option (Int32 × Hp)) (N : Nat) (x3 : Int32) (x4 : Int32) (h : Hp) (q : (Int32 × Hp)) (hk55 : ∀ (x3 : Int32) (h : Hp) (q : (Int32 × Hp)), k55 x3 h = some q → J κ 55 [(3, .inl x3)] [] h (some (.inl q.1), q.2)) (hq : itr3 (F_X12_alike_23 x1 k55) N x3 x4 h = some q) : J κ 23 [(1, .inl x1), (2, .inr (.inr 7)), (3, .inl x3), (4, .inl x4)] [] h (some (.inl q.1), q.2) :=
  itr3_ind (fun self hs x3 x4 h q hq => tF_X12_alike_23 X x1 k55 self x3 x4 h q hk55 hs hq) N x3 x4 h q hq
theorem tf_X12_alike {κ : Kx} (X : OK κ cX12_alike 5 (some .int) "StruckWords" 2) (x1 : Int32) (h : Hp) (q : (Int32 × Hp)) (hq : f_X12_alike x1 h = some q) : J κ 0 [(0, .inr (.inr 1)), (1, .inl x1)] [] h (some (.inl q.1), q.2) := by
  delta f_X12_alike at hq
  refine J_aload_n (pc := 0) X (j := 0) (i := 0) rfl rfl dX12_alike_0 ?_
  refine J_getF (pc := 1) X (b := 6) ly1 fl_12_28 rfl dX12_alike_1 ?_
  refine J_getF (pc := 4) X (b := 7) ly6 fl_12_95 rfl dX12_alike_4 ?_
  refine J_astore_n (pc := 7) X (L' := [(2, .inr (.inr 7)), (0, .inr (.inr 1)), (1, .inl x1)]) (i := 2) rfl (by decide) rfl dX12_alike_7 ?_
  refine J_aload_n (pc := 8) X (j := 0) (i := 2) rfl rfl dX12_alike_8 ?_
  refine J_iload_n (pc := 9) X (j := 2) (i := 1) rfl rfl dX12_alike_9 ?_
  obtain ⟨v2, h1, hc, hq⟩ := bnd_e hq
  refine J_callV (pc := 10) (as := [.inl x1]) (st := []) (st2 := [.inl v2]) (r1 := (some (.inl v2), h1)) (h2 := h1) (ky := 1) X dX12_alike_10 ca_X10_hasSaying ci_X10_hasSaying cs_X10_hasSaying ml_12_98 (by decide) ly7 rfl rfl (m_X10_hasSaying _ _ _ _ ly7 hc) rfl rfl (Nat.le_of_ble_eq_true rfl) rfl rfl ?_
  refine J_if_ne (pc := 13) (tgt := 18) X dX12_alike_13 rfl (fun c3 => ?_) (fun c3 => ?_)
  · have hq := ite_f hq c3
    refine J_iconst (pc := 18) X (v := 0) (by decide) dX12_alike_18 ?_
    refine J_istore_n (pc := 19) X (L' := [(3, .inl 0), (2, .inr (.inr 7)), (0, .inr (.inr 1)), (1, .inl x1)]) (i := 3) rfl (by decide) rfl dX12_alike_19 ?_
    refine J_iconst (pc := 20) X (v := 0) (by decide) dX12_alike_20 ?_
    refine J_istore (pc := 21) X (L' := [(4, .inl 0), (3, .inl 0), (2, .inr (.inr 7)), (0, .inr (.inr 1)), (1, .inl x1)]) (by decide) rfl dX12_alike_21 ?_
    refine J_sub [4, 2, 1, 0] rfl ?_
    refine tL_X12_alike_23 X _ _ N0 _ _ _ _ ?_ hq
    · intro v10 h9 q hq
      refine J_iload_n (pc := 55) X (j := 0) (i := 3) rfl rfl dX12_alike_55 ?_
      obtain rfl := Option.some.inj hq
      exact J_iret (pc := 56) X dX12_alike_56
  · have hq := ite_t hq c3
    refine J_iconst (pc := 16) X (v := (-1)) (by decide) dX12_alike_16 ?_
    obtain rfl := Option.some.inj hq
    exact J_iret (pc := 17) X dX12_alike_17
theorem m_X12_alike (x1 : Int32) (h : Hp) (q : (Int32 × Hp)) (hq : f_X12_alike x1 h = some q) : ∀ l w, CT l w yX12_alike cX12_alike 5 (some .int) 2 [.inr (.inr 1), .inl x1] h (some (.inl q.1), q.2) :=
  CT_of (L0 := [(0, .inr (.inr 1)), (1, .inl x1)]) (by decide) rfl (Nat.le_of_ble_eq_true rfl) (fun κ X => tf_X12_alike X x1 h q  hq)
theorem tF_X12_drawn_49 {κ : Kx} (X : OK κ cX12_drawn 7 (some .int) "StruckWords" 2) (x1 : Int32) (x4 : Int32) (k94 : Hp → Option (Int32 × Hp)) (self : Int32 → Int32 → Hp → Option (Int32 × Hp)) (x5 : Int32) (x6 : Int32) (h : Hp) (q : (Int32 × Hp)) (hk94 : ∀ (h : Hp) (q : (Int32 × Hp)), k94 h = some q → J κ 94 [(1, .inl x1)] [] h (some (.inl q.1), q.2)) (hself : ∀ (x5 : Int32) (x6 : Int32) (h : Hp) (q : (Int32 × Hp)), self x5 x6 h = some q → J κ 49 [(0, .inr (.inr 1)), (1, .inl x1), (3, .inr (.inr 7)), (4, .inl x4), (5, .inl x5), (6, .inl x6)] [] h (some (.inl q.1), q.2)) (hq : F_X12_drawn_49 x1 x4 k94 self x5 x6 h = some q) : J κ 49 [(0, .inr (.inr 1)), (1, .inl x1), (3, .inr (.inr 7)), (4, .inl x4), (5, .inl x5), (6, .inl x6)] [] h (some (.inl q.1), q.2) := by
  delta F_X12_drawn_49 at hq
  refine J_iload (pc := 49) X (j := 5) rfl dX12_drawn_49 ?_
  refine J_iload_n (pc := 51) X (j := 1) (i := 1) rfl rfl dX12_drawn_51 ?_
  refine J_icmp_ge (pc := 52) (tgt := 94) X dX12_drawn_52 rfl (fun c7 => ?_) (fun c7 => ?_)
  · have hq := ite_t hq c7
    refine J_sub [1] rfl ?_
    exact hk94 _ _ hq
  · have hq := ite_f hq c7
    refine J_iload (pc := 55) X (j := 4) rfl dX12_drawn_55 ?_
    refine J_ldc (pc := 57) X cn_12_169 dX12_drawn_57 ?_
    refine J_imul (pc := 59) X dX12_drawn_59 ?_
    refine J_sipush (pc := 60) X (v := 12345) (by decide) dX12_drawn_60 ?_
    refine J_iadd (pc := 63) X dX12_drawn_63 ?_
    refine J_ltI hq (fun v8 hq => ?_)
    refine J_istore (pc := 64) X (L' := [(5, .inl v8), (0, .inr (.inr 1)), (1, .inl x1), (3, .inr (.inr 7)), (4, .inl x4), (6, .inl x6)]) (by decide) rfl dX12_drawn_64 ?_
    refine J_aload_n (pc := 66) X (j := 1) (i := 0) rfl rfl dX12_drawn_66 ?_
    refine J_getF (pc := 67) X (b := 6) ly1 fl_12_28 rfl dX12_drawn_67 ?_
    refine J_getF (pc := 70) X (b := 18) ly6 fl_12_149 rfl dX12_drawn_70 ?_
    refine J_aload_n (pc := 73) X (j := 3) (i := 3) rfl rfl dX12_drawn_73 ?_
    refine J_iload (pc := 74) X (j := 0) rfl dX12_drawn_74 ?_
    refine J_bipush (pc := 76) X (v := 8) (by decide) dX12_drawn_76 ?_
    refine J_iushr (pc := 78) X dX12_drawn_78 ?_
    refine J_iload (pc := 79) X (j := 4) rfl dX12_drawn_79 ?_
    obtain ⟨g9, hq⟩ := gd hq
    refine J_irem (pc := 81) X (nz_ne g9) dX12_drawn_81 ?_
    obtain ⟨v11, h10, hc, hq⟩ := bnd_e hq
    refine J_callV (pc := 82) (as := [.inl (jrem (jushr v8 8) x4)]) (st := [.inr (.inr 18)]) (st2 := [.inl v11, .inr (.inr 18)]) (r1 := (some (.inl v11), h10)) (h2 := h10) (ky := 1) X dX12_drawn_82 ca_X10_weighedAt ci_X10_weighedAt cs_X10_weighedAt ml_12_170 (by decide) ly7 rfl rfl (m_X10_weighedAt _ _ _ _ ly7 hc) rfl rfl (Nat.le_of_ble_eq_true rfl) rfl rfl ?_
    obtain ⟨h12, hc, hq⟩ := bnv_e hq
    refine J_callV (pc := 85) (as := [.inl v11]) (st := []) (st2 := []) (r1 := (none, h12)) (h2 := h12) (ky := 1) X dX12_drawn_85 ca_X7_put ci_X7_put cs_X7_put ml_12_173 (by decide) ly18 rfl rfl (m_X7_put _ _ _ _ ly18 hc) rfl rfl (Nat.le_of_ble_eq_true rfl) rfl rfl ?_
    refine J_iinc (pc := 88) X (j := 5) (v := 1) (L' := [(6, .inl (x6 + 1)), (5, .inl v8), (0, .inr (.inr 1)), (1, .inl x1), (3, .inr (.inr 7)), (4, .inl x4)]) rfl (by decide) (by decide) rfl dX12_drawn_88 ?_
    refine J_goto (pc := 91) X (tgt := 49) dX12_drawn_91 rfl ?_
    refine J_sub [2, 3, 4, 5, 1, 0] rfl ?_
    exact hself _ _ _ _ hq
theorem tL_X12_drawn_49 {κ : Kx} (X : OK κ cX12_drawn 7 (some .int) "StruckWords" 2) (x1 : Int32) (x4 : Int32) (k94 : Hp → Option (Int32 × Hp)) (N : Nat) (x5 : Int32) (x6 : Int32) (h : Hp) (q : (Int32 × Hp)) (hk94 : ∀ (h : Hp) (q : (Int32 × Hp)), k94 h = some q → J κ 94 [(1, .inl x1)] [] h (some (.inl q.1), q.2)) (hq : itr3 (F_X12_drawn_49 x1 x4 k94) N x5 x6 h = some q) : J κ 49 [(0, .inr (.inr 1)), (1, .inl x1), (3, .inr (.inr 7)), (4, .inl x4), (5, .inl x5), (6, .inl x6)] [] h (some (.inl q.1), q.2) :=
  itr3_ind (fun self hs x5 x6 h q hq => tF_X12_drawn_49 X x1 x4 k94 self x5 x6 h q hk94 hs hq) N x5 x6 h q hq
theorem tf_X12_drawn {κ : Kx} (X : OK κ cX12_drawn 7 (some .int) "StruckWords" 2) (x1 : Int32) (x2 : Int32) (h : Hp) (q : (Int32 × Hp)) (hq : f_X12_drawn x1 x2 h = some q) : J κ 0 [(0, .inr (.inr 1)), (1, .inl x1), (2, .inl x2)] [] h (some (.inl q.1), q.2) := by
  delta f_X12_drawn at hq
  refine J_aload_n (pc := 0) X (j := 0) (i := 0) rfl rfl dX12_drawn_0 ?_
  refine J_getF (pc := 1) X (b := 6) ly1 fl_12_28 rfl dX12_drawn_1 ?_
  refine J_getF (pc := 4) X (b := 7) ly6 fl_12_95 rfl dX12_drawn_4 ?_
  refine J_astore_n (pc := 7) X (L' := [(3, .inr (.inr 7)), (0, .inr (.inr 1)), (1, .inl x1), (2, .inl x2)]) (i := 3) rfl (by decide) rfl dX12_drawn_7 ?_
  refine J_aload_n (pc := 8) X (j := 0) (i := 3) rfl rfl dX12_drawn_8 ?_
  obtain ⟨v2, h1, hc, hq⟩ := bnd_e hq
  refine J_callV (pc := 9) (as := []) (st := []) (st2 := [.inl v2]) (r1 := (some (.inl v2), h1)) (h2 := h1) (ky := 1) X dX12_drawn_9 ca_X10_allWeighs ci_X10_allWeighs cs_X10_allWeighs ml_12_165 (by decide) ly7 rfl rfl (m_X10_allWeighs _ _ _ ly7 hc) rfl rfl (Nat.le_of_ble_eq_true rfl) rfl rfl ?_
  refine J_istore (pc := 12) X (L' := [(4, .inl v2), (3, .inr (.inr 7)), (0, .inr (.inr 1)), (1, .inl x1), (2, .inl x2)]) (by decide) rfl dX12_drawn_12 ?_
  refine J_iload_n (pc := 14) X (j := 3) (i := 1) rfl rfl dX12_drawn_14 ?_
  refine J_iconst (pc := 15) X (v := 1) (by decide) dX12_drawn_15 ?_
  refine J_icmp_lt (pc := 16) (tgt := 30) X dX12_drawn_16 rfl (fun c3 => ?_) (fun c3 => ?_)
  · have hq := ite_t hq c3
    refine J_iconst (pc := 30) X (v := (-1)) (by decide) dX12_drawn_30 ?_
    obtain rfl := Option.some.inj hq
    exact J_iret (pc := 31) X dX12_drawn_31
  · have hq := ite_f hq c3
    refine J_iload_n (pc := 19) X (j := 3) (i := 1) rfl rfl dX12_drawn_19 ?_
    refine J_bipush (pc := 20) X (v := 24) (by decide) dX12_drawn_20 ?_
    refine J_icmp_gt (pc := 22) (tgt := 30) X dX12_drawn_22 rfl (fun c4 => ?_) (fun c4 => ?_)
    · have hq := ite_t hq c4
      refine J_iconst (pc := 30) X (v := (-1)) (by decide) dX12_drawn_30 ?_
      obtain rfl := Option.some.inj hq
      exact J_iret (pc := 31) X dX12_drawn_31
    · have hq := ite_f hq c4
      refine J_iload (pc := 25) X (j := 0) rfl dX12_drawn_25 ?_
      refine J_if_gt (pc := 27) (tgt := 32) X dX12_drawn_27 rfl (fun c5 => ?_) (fun c5 => ?_)
      · have hq := ite_t hq c5
        refine J_aload_n (pc := 32) X (j := 2) (i := 0) rfl rfl dX12_drawn_32 ?_
        refine J_getF (pc := 33) X (b := 6) ly1 fl_12_28 rfl dX12_drawn_33 ?_
        refine J_getF (pc := 36) X (b := 18) ly6 fl_12_149 rfl dX12_drawn_36 ?_
        refine J_iconst (pc := 39) X (v := 0) (by decide) dX12_drawn_39 ?_
        refine J_putI (pc := 40) X ly18 fp_12_74 dX12_drawn_40 ?_
        refine J_ltH hq (fun h6 hq => ?_)
        refine J_iload_n (pc := 43) X (j := 4) (i := 2) rfl rfl dX12_drawn_43 ?_
        refine J_istore (pc := 44) X (L' := [(5, .inl x2), (4, .inl v2), (3, .inr (.inr 7)), (0, .inr (.inr 1)), (1, .inl x1), (2, .inl x2)]) (by decide) rfl dX12_drawn_44 ?_
        refine J_iconst (pc := 46) X (v := 0) (by decide) dX12_drawn_46 ?_
        refine J_istore (pc := 47) X (L' := [(6, .inl 0), (5, .inl x2), (4, .inl v2), (3, .inr (.inr 7)), (0, .inr (.inr 1)), (1, .inl x1), (2, .inl x2)]) (by decide) rfl dX12_drawn_47 ?_
        refine J_sub [4, 5, 3, 2, 1, 0] rfl ?_
        refine tL_X12_drawn_49 X _ _ _ N0 _ _ _ _ ?_ hq
        · intro h13 q hq
          refine J_iload_n (pc := 94) X (j := 0) (i := 1) rfl rfl dX12_drawn_94 ?_
          obtain rfl := Option.some.inj hq
          exact J_iret (pc := 95) X dX12_drawn_95
      · have hq := ite_f hq c5
        refine J_iconst (pc := 30) X (v := (-1)) (by decide) dX12_drawn_30 ?_
        obtain rfl := Option.some.inj hq
        exact J_iret (pc := 31) X dX12_drawn_31
theorem m_X12_drawn (x1 : Int32) (x2 : Int32) (h : Hp) (q : (Int32 × Hp)) (hq : f_X12_drawn x1 x2 h = some q) : ∀ l w, CT l w yX12_drawn cX12_drawn 7 (some .int) 2 [.inr (.inr 1), .inl x1, .inl x2] h (some (.inl q.1), q.2) :=
  CT_of (L0 := [(0, .inr (.inr 1)), (1, .inl x1), (2, .inl x2)]) (by decide) rfl (Nat.le_of_ble_eq_true rfl) (fun κ X => tf_X12_drawn X x1 x2 h q  hq)
theorem tf_X12_isBeginning {κ : Kx} (X : OK κ cX12_isBeginning 2 (some .boolean) "StruckWords" 1) (x1 : Int32) (h : Hp) (q : (Int32 × Hp)) (hq : f_X12_isBeginning x1 h = some q) : J κ 0 [(0, .inr (.inr 1)), (1, .inl x1)] [] h (some (.inl q.1), q.2) := by
  delta f_X12_isBeginning at hq
  refine J_iload_n (pc := 0) X (j := 1) (i := 1) rfl rfl dX12_isBeginning_0 ?_
  refine J_iconst (pc := 1) X (v := 1) (by decide) dX12_isBeginning_1 ?_
  refine J_icmp_lt (pc := 2) (tgt := 26) X dX12_isBeginning_2 rfl (fun c1 => ?_) (fun c1 => ?_)
  · have hq := ite_t hq c1
    refine J_iconst (pc := 26) X (v := 0) (by decide) dX12_isBeginning_26 ?_
    obtain rfl := Option.some.inj hq
    exact J_zret (pc := 27) X (by decide) dX12_isBeginning_27
  · have hq := ite_f hq c1
    refine J_iload_n (pc := 5) X (j := 1) (i := 1) rfl rfl dX12_isBeginning_5 ?_
    refine J_aload_n (pc := 6) X (j := 0) (i := 0) rfl rfl dX12_isBeginning_6 ?_
    refine J_getF (pc := 7) X (b := 6) ly1 fl_12_28 rfl dX12_isBeginning_7 ?_
    refine J_getF (pc := 10) X (b := 7) ly6 fl_12_95 rfl dX12_isBeginning_10 ?_
    refine J_getF (pc := 13) X (b := 9) ly7 fl_12_210 rfl dX12_isBeginning_13 ?_
    refine J_getI (pc := 16) X ly9 fl_12_214 dX12_isBeginning_16 ?_
    refine J_icmp_gt (pc := 19) (tgt := 26) X dX12_isBeginning_19 rfl (fun c2 => ?_) (fun c2 => ?_)
    · have hq := ite_t hq c2
      refine J_iconst (pc := 26) X (v := 0) (by decide) dX12_isBeginning_26 ?_
      obtain rfl := Option.some.inj hq
      exact J_zret (pc := 27) X (by decide) dX12_isBeginning_27
    · have hq := ite_f hq c2
      refine J_iconst (pc := 22) X (v := 1) (by decide) dX12_isBeginning_22 ?_
      refine J_goto (pc := 23) X (tgt := 27) dX12_isBeginning_23 rfl ?_
      obtain rfl := Option.some.inj hq
      exact J_zret (pc := 27) X (by decide) dX12_isBeginning_27
theorem m_X12_isBeginning (x1 : Int32) (h : Hp) (q : (Int32 × Hp)) (hq : f_X12_isBeginning x1 h = some q) : ∀ l w, CT l w yX12_isBeginning cX12_isBeginning 2 (some .boolean) 1 [.inr (.inr 1), .inl x1] h (some (.inl q.1), q.2) :=
  CT_of (L0 := [(0, .inr (.inr 1)), (1, .inl x1)]) (by decide) rfl (Nat.le_of_ble_eq_true rfl) (fun κ X => tf_X12_isBeginning X x1 h q  hq)
theorem tf_X12_isBeginningOrAll {κ : Kx} (X : OK κ cX12_isBeginningOrAll 2 (some .boolean) "StruckWords" 2) (x1 : Int32) (h : Hp) (q : (Int32 × Hp)) (hq : f_X12_isBeginningOrAll x1 h = some q) : J κ 0 [(0, .inr (.inr 1)), (1, .inl x1)] [] h (some (.inl q.1), q.2) := by
  delta f_X12_isBeginningOrAll at hq
  refine J_iload_n (pc := 0) X (j := 1) (i := 1) rfl rfl dX12_isBeginningOrAll_0 ?_
  refine J_if_eq (pc := 1) (tgt := 12) X dX12_isBeginningOrAll_1 rfl (fun c1 => ?_) (fun c1 => ?_)
  · have hq := ite_t hq c1
    refine J_iconst (pc := 12) X (v := 1) (by decide) dX12_isBeginningOrAll_12 ?_
    refine J_goto (pc := 13) X (tgt := 17) dX12_isBeginningOrAll_13 rfl ?_
    obtain rfl := Option.some.inj hq
    exact J_zret (pc := 17) X (by decide) dX12_isBeginningOrAll_17
  · have hq := ite_f hq c1
    refine J_aload_n (pc := 4) X (j := 0) (i := 0) rfl rfl dX12_isBeginningOrAll_4 ?_
    refine J_iload_n (pc := 5) X (j := 1) (i := 1) rfl rfl dX12_isBeginningOrAll_5 ?_
    obtain ⟨v3, h2, hc, hq⟩ := bnd_e hq
    refine J_callV (pc := 6) (as := [.inl x1]) (st := []) (st2 := [.inl v3]) (r1 := (some (.inl v3), h2)) (h2 := h2) (ky := 1) X dX12_isBeginningOrAll_6 ca_X12_isBeginning ci_X12_isBeginning cs_X12_isBeginning ml_12_223 (by decide) ly1 rfl rfl (m_X12_isBeginning _ _ _ hc) rfl rfl (Nat.le_of_ble_eq_true rfl) rfl rfl ?_
    refine J_if_eq (pc := 9) (tgt := 16) X dX12_isBeginningOrAll_9 rfl (fun c4 => ?_) (fun c4 => ?_)
    · have hq := ite_t hq c4
      refine J_iconst (pc := 16) X (v := 0) (by decide) dX12_isBeginningOrAll_16 ?_
      obtain rfl := Option.some.inj hq
      exact J_zret (pc := 17) X (by decide) dX12_isBeginningOrAll_17
    · have hq := ite_f hq c4
      refine J_iconst (pc := 12) X (v := 1) (by decide) dX12_isBeginningOrAll_12 ?_
      refine J_goto (pc := 13) X (tgt := 17) dX12_isBeginningOrAll_13 rfl ?_
      obtain rfl := Option.some.inj hq
      exact J_zret (pc := 17) X (by decide) dX12_isBeginningOrAll_17
theorem m_X12_isBeginningOrAll (x1 : Int32) (h : Hp) (q : (Int32 × Hp)) (hq : f_X12_isBeginningOrAll x1 h = some q) : ∀ l w, CT l w yX12_isBeginningOrAll cX12_isBeginningOrAll 2 (some .boolean) 2 [.inr (.inr 1), .inl x1] h (some (.inl q.1), q.2) :=
  CT_of (L0 := [(0, .inr (.inr 1)), (1, .inl x1)]) (by decide) rfl (Nat.le_of_ble_eq_true rfl) (fun κ X => tf_X12_isBeginningOrAll X x1 h q  hq)
theorem tf_X12_left {κ : Kx} (X : OK κ cX12_left 2 (some .int) "StruckWords" 3) (x1 : Int32) (h : Hp) (q : (Int32 × Hp)) (hq : f_X12_left x1 h = some q) : J κ 0 [(0, .inr (.inr 1)), (1, .inl x1)] [] h (some (.inl q.1), q.2) := by
  delta f_X12_left at hq
  refine J_aload_n (pc := 0) X (j := 0) (i := 0) rfl rfl dX12_left_0 ?_
  refine J_iload_n (pc := 1) X (j := 1) (i := 1) rfl rfl dX12_left_1 ?_
  obtain ⟨v2, h1, hc, hq⟩ := bnd_e hq
  refine J_callV (pc := 2) (as := [.inl x1]) (st := []) (st2 := [.inl v2]) (r1 := (some (.inl v2), h1)) (h2 := h1) (ky := 2) X dX12_left_2 ca_X12_isBeginningOrAll ci_X12_isBeginningOrAll cs_X12_isBeginningOrAll ml_12_176 (by decide) ly1 rfl rfl (m_X12_isBeginningOrAll _ _ _ hc) rfl rfl (Nat.le_of_ble_eq_true rfl) rfl rfl ?_
  refine J_if_ne (pc := 5) (tgt := 10) X dX12_left_5 rfl (fun c3 => ?_) (fun c3 => ?_)
  · have hq := ite_f hq c3
    refine J_aload_n (pc := 10) X (j := 0) (i := 0) rfl rfl dX12_left_10 ?_
    refine J_getF (pc := 11) X (b := 113) ly1 fl_12_43 rfl dX12_left_11 ?_
    refine J_aload_n (pc := 14) X (j := 0) (i := 0) rfl rfl dX12_left_14 ?_
    refine J_getF (pc := 15) X (b := 6) ly1 fl_12_28 rfl dX12_left_15 ?_
    refine J_iload_n (pc := 18) X (j := 1) (i := 1) rfl rfl dX12_left_18 ?_
    obtain ⟨r5, h4, hc, hq⟩ := bnd_e hq
    refine J_callV (pc := 19) (as := [.inr (.inr 6), .inl x1]) (st := []) (st2 := [.inr (.inr r5)]) (r1 := (some (.inr (.inr r5)), h4)) (h2 := h4) (ky := 2) X dX12_left_19 ca_X3_strike ci_X3_strike cs_X3_strike ml_12_179 (by decide) ly113 rfl rfl (m_X3_strike _ _ _ _ ly6 hc) rfl rfl (Nat.le_of_ble_eq_true rfl) rfl rfl ?_
    obtain ⟨g6, hq⟩ := gd hq
    refine J_getI (pc := 22) X (isO_lay g6) fl_12_74 dX12_left_22 ?_
    obtain rfl := Option.some.inj hq
    exact J_iret (pc := 25) X dX12_left_25
  · have hq := ite_t hq c3
    refine J_iconst (pc := 8) X (v := (-1)) (by decide) dX12_left_8 ?_
    obtain rfl := Option.some.inj hq
    exact J_iret (pc := 9) X dX12_left_9
theorem m_X12_left (x1 : Int32) (h : Hp) (q : (Int32 × Hp)) (hq : f_X12_left x1 h = some q) : ∀ l w, CT l w yX12_left cX12_left 2 (some .int) 3 [.inr (.inr 1), .inl x1] h (some (.inl q.1), q.2) :=
  CT_of (L0 := [(0, .inr (.inr 1)), (1, .inl x1)]) (by decide) rfl (Nat.le_of_ble_eq_true rfl) (fun κ X => tf_X12_left X x1 h q  hq)
theorem tf_X12_leftAt {κ : Kx} (X : OK κ cX12_leftAt 3 (some .int) "StruckWords" 3) (x1 : Int32) (x2 : Int32) (h : Hp) (q : (Int32 × Hp)) (hq : f_X12_leftAt x1 x2 h = some q) : J κ 0 [(0, .inr (.inr 1)), (1, .inl x1), (2, .inl x2)] [] h (some (.inl q.1), q.2) := by
  delta f_X12_leftAt at hq
  refine J_aload_n (pc := 0) X (j := 0) (i := 0) rfl rfl dX12_leftAt_0 ?_
  refine J_iload_n (pc := 1) X (j := 1) (i := 1) rfl rfl dX12_leftAt_1 ?_
  obtain ⟨v2, h1, hc, hq⟩ := bnd_e hq
  refine J_callV (pc := 2) (as := [.inl x1]) (st := []) (st2 := [.inl v2]) (r1 := (some (.inl v2), h1)) (h2 := h1) (ky := 2) X dX12_leftAt_2 ca_X12_isBeginningOrAll ci_X12_isBeginningOrAll cs_X12_isBeginningOrAll ml_12_176 (by decide) ly1 rfl rfl (m_X12_isBeginningOrAll _ _ _ hc) rfl rfl (Nat.le_of_ble_eq_true rfl) rfl rfl ?_
  refine J_if_ne (pc := 5) (tgt := 10) X dX12_leftAt_5 rfl (fun c3 => ?_) (fun c3 => ?_)
  · have hq := ite_f hq c3
    refine J_aload_n (pc := 10) X (j := 0) (i := 0) rfl rfl dX12_leftAt_10 ?_
    refine J_getF (pc := 11) X (b := 113) ly1 fl_12_43 rfl dX12_leftAt_11 ?_
    refine J_aload_n (pc := 14) X (j := 0) (i := 0) rfl rfl dX12_leftAt_14 ?_
    refine J_getF (pc := 15) X (b := 6) ly1 fl_12_28 rfl dX12_leftAt_15 ?_
    refine J_iload_n (pc := 18) X (j := 1) (i := 1) rfl rfl dX12_leftAt_18 ?_
    obtain ⟨r5, h4, hc, hq⟩ := bnd_e hq
    refine J_callV (pc := 19) (as := [.inr (.inr 6), .inl x1]) (st := []) (st2 := [.inr (.inr r5)]) (r1 := (some (.inr (.inr r5)), h4)) (h2 := h4) (ky := 2) X dX12_leftAt_19 ca_X3_strike ci_X3_strike cs_X3_strike ml_12_179 (by decide) ly113 rfl rfl (m_X3_strike _ _ _ _ ly6 hc) rfl rfl (Nat.le_of_ble_eq_true rfl) rfl rfl ?_
    obtain ⟨g6, hq⟩ := gd hq
    refine J_iload_n (pc := 22) X (j := 2) (i := 2) rfl rfl dX12_leftAt_22 ?_
    obtain ⟨v8, h7, hc, hq⟩ := bnd_e hq
    refine J_callV (pc := 23) (as := [.inl x2]) (st := []) (st2 := [.inl v8]) (r1 := (some (.inl v8), h7)) (h2 := h7) (ky := 1) X dX12_leftAt_23 ca_X7_atOrNone ci_X7_atOrNone cs_X7_atOrNone ml_12_183 (by decide) (isO_lay g6) rfl rfl (m_X7_atOrNone _ _ _ _ (isO_lay g6) hc) rfl rfl (Nat.le_of_ble_eq_true rfl) rfl rfl ?_
    obtain rfl := Option.some.inj hq
    exact J_iret (pc := 26) X dX12_leftAt_26
  · have hq := ite_t hq c3
    refine J_iconst (pc := 8) X (v := (-1)) (by decide) dX12_leftAt_8 ?_
    obtain rfl := Option.some.inj hq
    exact J_iret (pc := 9) X dX12_leftAt_9
theorem m_X12_leftAt (x1 : Int32) (x2 : Int32) (h : Hp) (q : (Int32 × Hp)) (hq : f_X12_leftAt x1 x2 h = some q) : ∀ l w, CT l w yX12_leftAt cX12_leftAt 3 (some .int) 3 [.inr (.inr 1), .inl x1, .inl x2] h (some (.inl q.1), q.2) :=
  CT_of (L0 := [(0, .inr (.inr 1)), (1, .inl x1), (2, .inl x2)]) (by decide) rfl (Nat.le_of_ble_eq_true rfl) (fun κ X => tf_X12_leftAt X x1 x2 h q  hq)
