theorem tB_X13_text_98 {κ : Kx} (X : OK κ cX13_text 3 (some .int) "StruckWordsModel" 3) (k45 : Hp → Option (Int32 × Hp)) (k91 : Hp → Option (Int32 × Hp)) (k115 : Int32 → Hp → Option (Int32 × Hp)) (self : Int32 → Hp → Option (Int32 × Hp)) (x1 : Int32) (x2 : Int32) (h : Hp) (q : (Int32 × Hp)) (hk45 : ∀ (h : Hp) (q : (Int32 × Hp)), k45 h = some q → J κ 45 [(0, .inr (.inr 155))] [] h (some (.inl q.1), q.2)) (hk91 : ∀ (h : Hp) (q : (Int32 × Hp)), k91 h = some q → J κ 91 [(0, .inr (.inr 155))] [] h (some (.inl q.1), q.2)) (hk115 : ∀ (x1 : Int32) (h : Hp) (q : (Int32 × Hp)), k115 x1 h = some q → J κ 115 [(0, .inr (.inr 155)), (1, .inl x1)] [] h (some (.inl q.1), q.2)) (hself : ∀ (x1 : Int32) (h : Hp) (q : (Int32 × Hp)), self x1 h = some q → J κ 23 [(0, .inr (.inr 155)), (1, .inl x1)] [] h (some (.inl q.1), q.2)) (hq : B_X13_text_98 k45 k91 k115 self x1 x2 h = some q) : J κ 98 [(0, .inr (.inr 155)), (1, .inl x1), (2, .inl x2)] [] h (some (.inl q.1), q.2) := by
  delta B_X13_text_98 at hq
  refine J_aload_n (pc := 98) X (j := 0) (i := 0) rfl rfl dX13_text_98 ?_
  refine J_getF (pc := 99) X (b := 163) ly155 fl_13_53 rfl dX13_text_99 ?_
  refine J_iload_n (pc := 102) X (j := 1) (i := 1) rfl rfl dX13_text_102 ?_
  refine J_iload_n (pc := 103) X (j := 2) (i := 2) rfl rfl dX13_text_103 ?_
  obtain ⟨g13, hq⟩ := gd hq
  refine J_iastore (pc := 104) X ly163 g13 dX13_text_104 ?_
  refine J_ltH hq (fun h14 hq => ?_)
  refine J_iinc (pc := 105) X (j := 1) (v := 1) (L' := [(1, .inl (x1 + 1)), (0, .inr (.inr 155)), (2, .inl x2)]) rfl (by decide) (by decide) rfl dX13_text_105 ?_
  refine J_aload_n (pc := 108) X (j := 1) (i := 0) rfl rfl dX13_text_108 ?_
  obtain ⟨h15, hc, hq⟩ := bnv_e hq
  refine J_callV (pc := 109) (as := []) (st := []) (st2 := []) (r1 := (none, h15)) (h2 := h15) (ky := 2) X dX13_text_109 ca_X13_next ci_X13_next cs_X13_next ml_13_201 (by decide) ly155 rfl rfl (m_X13_next _ _ hc) rfl rfl (Nat.le_of_ble_eq_true rfl) rfl rfl ?_
  refine J_goto (pc := 112) X (tgt := 23) dX13_text_112 rfl ?_
  refine J_sub [1, 0] rfl ?_
  exact hself _ _ _ hq
theorem tB_X13_text_77 {κ : Kx} (X : OK κ cX13_text 3 (some .int) "StruckWordsModel" 3) (k45 : Hp → Option (Int32 × Hp)) (k91 : Hp → Option (Int32 × Hp)) (k115 : Int32 → Hp → Option (Int32 × Hp)) (self : Int32 → Hp → Option (Int32 × Hp)) (x1 : Int32) (x2 : Int32) (h : Hp) (q : (Int32 × Hp)) (hk45 : ∀ (h : Hp) (q : (Int32 × Hp)), k45 h = some q → J κ 45 [(0, .inr (.inr 155))] [] h (some (.inl q.1), q.2)) (hk91 : ∀ (h : Hp) (q : (Int32 × Hp)), k91 h = some q → J κ 91 [(0, .inr (.inr 155))] [] h (some (.inl q.1), q.2)) (hk115 : ∀ (x1 : Int32) (h : Hp) (q : (Int32 × Hp)), k115 x1 h = some q → J κ 115 [(0, .inr (.inr 155)), (1, .inl x1)] [] h (some (.inl q.1), q.2)) (hself : ∀ (x1 : Int32) (h : Hp) (q : (Int32 × Hp)), self x1 h = some q → J κ 23 [(0, .inr (.inr 155)), (1, .inl x1)] [] h (some (.inl q.1), q.2)) (hq : B_X13_text_77 k45 k91 k115 self x1 x2 h = some q) : J κ 77 [(0, .inr (.inr 155)), (1, .inl x1), (2, .inl x2)] [] h (some (.inl q.1), q.2) := by
  delta B_X13_text_77 at hq
  refine J_iload_n (pc := 77) X (j := 1) (i := 1) rfl rfl dX13_text_77 ?_
  refine J_bipush (pc := 78) X (v := 24) (by decide) dX13_text_78 ?_
  refine J_icmp_ne (pc := 80) (tgt := 98) X dX13_text_80 rfl (fun c12 => ?_) (fun c12 => ?_)
  · have hq := ite_f hq c12
    exact tB_X13_text_98 X _ _ _ _ _ _ _ _ hk45 hk91 hk115 hself hq
  · have hq := ite_t hq c12
    refine J_aload_n (pc := 83) X (j := 0) (i := 0) rfl rfl dX13_text_83 ?_
    refine J_iconst (pc := 84) X (v := 4) (by decide) dX13_text_84 ?_
    obtain ⟨v17, h16, hc, hq⟩ := bnd_e hq
    refine J_callV (pc := 85) (as := [.inl 4]) (st := []) (st2 := [.inl v17]) (r1 := (some (.inl v17), h16)) (h2 := h16) (ky := 1) X dX13_text_85 ca_X13_bad ci_X13_bad cs_X13_bad ml_13_198 (by decide) ly155 rfl rfl (m_X13_bad _ _ _ hc) rfl rfl (Nat.le_of_ble_eq_true rfl) rfl rfl ?_
    refine J_if_ne (pc := 88) (tgt := 98) X dX13_text_88 rfl (fun c18 => ?_) (fun c18 => ?_)
    · have hq := ite_f hq c18
      exact tB_X13_text_98 X _ _ _ _ _ _ _ _ hk45 hk91 hk115 hself hq
    · have hq := ite_t hq c18
      refine J_sub [0] rfl ?_
      exact hk91 _ _ hq
theorem tB_X13_text_52 {κ : Kx} (X : OK κ cX13_text 3 (some .int) "StruckWordsModel" 3) (k45 : Hp → Option (Int32 × Hp)) (k91 : Hp → Option (Int32 × Hp)) (k115 : Int32 → Hp → Option (Int32 × Hp)) (self : Int32 → Hp → Option (Int32 × Hp)) (x1 : Int32) (h : Hp) (q : (Int32 × Hp)) (hk45 : ∀ (h : Hp) (q : (Int32 × Hp)), k45 h = some q → J κ 45 [(0, .inr (.inr 155))] [] h (some (.inl q.1), q.2)) (hk91 : ∀ (h : Hp) (q : (Int32 × Hp)), k91 h = some q → J κ 91 [(0, .inr (.inr 155))] [] h (some (.inl q.1), q.2)) (hk115 : ∀ (x1 : Int32) (h : Hp) (q : (Int32 × Hp)), k115 x1 h = some q → J κ 115 [(0, .inr (.inr 155)), (1, .inl x1)] [] h (some (.inl q.1), q.2)) (hself : ∀ (x1 : Int32) (h : Hp) (q : (Int32 × Hp)), self x1 h = some q → J κ 23 [(0, .inr (.inr 155)), (1, .inl x1)] [] h (some (.inl q.1), q.2)) (hq : B_X13_text_52 k45 k91 k115 self x1 h = some q) : J κ 52 [(0, .inr (.inr 155)), (1, .inl x1)] [] h (some (.inl q.1), q.2) := by
  delta B_X13_text_52 at hq
  refine J_aload_n (pc := 52) X (j := 0) (i := 0) rfl rfl dX13_text_52 ?_
  refine J_bipush (pc := 53) X (v := 8) (by decide) dX13_text_53 ?_
  refine J_aload_n (pc := 55) X (j := 0) (i := 0) rfl rfl dX13_text_55 ?_
  refine J_getF (pc := 56) X (b := 157) ly155 fl_13_33 rfl dX13_text_56 ?_
  refine J_iconst (pc := 59) X (v := 2) (by decide) dX13_text_59 ?_
  refine J_iaload (pc := 60) X ly157 (by decide) dX13_text_60 ?_
  obtain ⟨v10, h9, hc, hq⟩ := bnd_e hq
  refine J_callV (pc := 61) (as := [.inl 8, .inl (h.1 157 ((2 : Int32).toNatClampNeg))]) (st := []) (st2 := [.inl v10]) (r1 := (some (.inl v10), h9)) (h2 := h9) (ky := 1) X dX13_text_61 ca_X13_find ci_X13_find cs_X13_find ml_13_215 (by decide) ly155 rfl rfl (m_X13_find _ _ _ _ hc) rfl rfl (Nat.le_of_ble_eq_true rfl) rfl rfl ?_
  refine J_istore_n (pc := 64) X (L' := [(2, .inl v10), (0, .inr (.inr 155)), (1, .inl x1)]) (i := 2) rfl (by decide) rfl dX13_text_64 ?_
  refine J_iload_n (pc := 65) X (j := 0) (i := 2) rfl rfl dX13_text_65 ?_
  refine J_if_ge (pc := 66) (tgt := 77) X dX13_text_66 rfl (fun c11 => ?_) (fun c11 => ?_)
  · have hq := ite_t hq c11
    refine J_sub [1, 2, 0] rfl ?_
    exact tB_X13_text_77 X _ _ _ _ _ _ _ _ hk45 hk91 hk115 hself hq
  · have hq := ite_f hq c11
    refine J_aload_n (pc := 69) X (j := 1) (i := 0) rfl rfl dX13_text_69 ?_
    refine J_iconst (pc := 70) X (v := 3) (by decide) dX13_text_70 ?_
    obtain ⟨v20, h19, hc, hq⟩ := bnd_e hq
    refine J_callV (pc := 71) (as := [.inl 3]) (st := []) (st2 := [.inl v20]) (r1 := (some (.inl v20), h19)) (h2 := h19) (ky := 1) X dX13_text_71 ca_X13_bad ci_X13_bad cs_X13_bad ml_13_198 (by decide) ly155 rfl rfl (m_X13_bad _ _ _ hc) rfl rfl (Nat.le_of_ble_eq_true rfl) rfl rfl ?_
    refine J_if_eq (pc := 74) (tgt := 91) X dX13_text_74 rfl (fun c21 => ?_) (fun c21 => ?_)
    · have hq := ite_t hq c21
      refine J_sub [1] rfl ?_
      exact hk91 _ _ hq
    · have hq := ite_f hq c21
      refine J_sub [1, 2, 0] rfl ?_
      exact tB_X13_text_77 X _ _ _ _ _ _ _ _ hk45 hk91 hk115 hself hq
theorem tF_X13_text_23 {κ : Kx} (X : OK κ cX13_text 3 (some .int) "StruckWordsModel" 3) (k45 : Hp → Option (Int32 × Hp)) (k91 : Hp → Option (Int32 × Hp)) (k115 : Int32 → Hp → Option (Int32 × Hp)) (self : Int32 → Hp → Option (Int32 × Hp)) (x1 : Int32) (h : Hp) (q : (Int32 × Hp)) (hk45 : ∀ (h : Hp) (q : (Int32 × Hp)), k45 h = some q → J κ 45 [(0, .inr (.inr 155))] [] h (some (.inl q.1), q.2)) (hk91 : ∀ (h : Hp) (q : (Int32 × Hp)), k91 h = some q → J κ 91 [(0, .inr (.inr 155))] [] h (some (.inl q.1), q.2)) (hk115 : ∀ (x1 : Int32) (h : Hp) (q : (Int32 × Hp)), k115 x1 h = some q → J κ 115 [(0, .inr (.inr 155)), (1, .inl x1)] [] h (some (.inl q.1), q.2)) (hself : ∀ (x1 : Int32) (h : Hp) (q : (Int32 × Hp)), self x1 h = some q → J κ 23 [(0, .inr (.inr 155)), (1, .inl x1)] [] h (some (.inl q.1), q.2)) (hq : F_X13_text_23 k45 k91 k115 self x1 h = some q) : J κ 23 [(0, .inr (.inr 155)), (1, .inl x1)] [] h (some (.inl q.1), q.2) := by
  delta F_X13_text_23 at hq
  refine J_aload_n (pc := 23) X (j := 0) (i := 0) rfl rfl dX13_text_23 ?_
  refine J_getI (pc := 24) X ly155 fl_13_172 dX13_text_24 ?_
  refine J_if_eq (pc := 27) (tgt := 115) X dX13_text_27 rfl (fun c5 => ?_) (fun c5 => ?_)
  · have hq := ite_t hq c5
    exact hk115 _ _ _ hq
  · have hq := ite_f hq c5
    refine J_aload_n (pc := 30) X (j := 0) (i := 0) rfl rfl dX13_text_30 ?_
    obtain ⟨v7, h6, hc, hq⟩ := bnd_e hq
    refine J_callV (pc := 31) (as := []) (st := []) (st2 := [.inl v7]) (r1 := (some (.inl v7), h6)) (h2 := h6) (ky := 1) X dX13_text_31 ca_X13_isName ci_X13_isName cs_X13_isName ml_13_211 (by decide) ly155 rfl rfl (m_X13_isName _ _ hc) rfl rfl (Nat.le_of_ble_eq_true rfl) rfl rfl ?_
    refine J_if_ne (pc := 34) (tgt := 52) X dX13_text_34 rfl (fun c8 => ?_) (fun c8 => ?_)
    · have hq := ite_f hq c8
      exact tB_X13_text_52 X _ _ _ _ _ _ _ hk45 hk91 hk115 hself hq
    · have hq := ite_t hq c8
      refine J_aload_n (pc := 37) X (j := 0) (i := 0) rfl rfl dX13_text_37 ?_
      refine J_iconst (pc := 38) X (v := 1) (by decide) dX13_text_38 ?_
      obtain ⟨v23, h22, hc, hq⟩ := bnd_e hq
      refine J_callV (pc := 39) (as := [.inl 1]) (st := []) (st2 := [.inl v23]) (r1 := (some (.inl v23), h22)) (h2 := h22) (ky := 1) X dX13_text_39 ca_X13_bad ci_X13_bad cs_X13_bad ml_13_198 (by decide) ly155 rfl rfl (m_X13_bad _ _ _ hc) rfl rfl (Nat.le_of_ble_eq_true rfl) rfl rfl ?_
      refine J_if_ne (pc := 42) (tgt := 52) X dX13_text_42 rfl (fun c24 => ?_) (fun c24 => ?_)
      · have hq := ite_f hq c24
        exact tB_X13_text_52 X _ _ _ _ _ _ _ hk45 hk91 hk115 hself hq
      · have hq := ite_t hq c24
        refine J_sub [0] rfl ?_
        exact hk45 _ _ hq
theorem tL_X13_text_23 {κ : Kx} (X : OK κ cX13_text 3 (some .int) "StruckWordsModel" 3) (k45 : Hp → Option (Int32 × Hp)) (k91 : Hp → Option (Int32 × Hp)) (k115 : Int32 → Hp → Option (Int32 × Hp)) (N : Nat) (x1 : Int32) (h : Hp) (q : (Int32 × Hp)) (hk45 : ∀ (h : Hp) (q : (Int32 × Hp)), k45 h = some q → J κ 45 [(0, .inr (.inr 155))] [] h (some (.inl q.1), q.2)) (hk91 : ∀ (h : Hp) (q : (Int32 × Hp)), k91 h = some q → J κ 91 [(0, .inr (.inr 155))] [] h (some (.inl q.1), q.2)) (hk115 : ∀ (x1 : Int32) (h : Hp) (q : (Int32 × Hp)), k115 x1 h = some q → J κ 115 [(0, .inr (.inr 155)), (1, .inl x1)] [] h (some (.inl q.1), q.2)) (hq : itr2 (F_X13_text_23 k45 k91 k115) N x1 h = some q) : J κ 23 [(0, .inr (.inr 155)), (1, .inl x1)] [] h (some (.inl q.1), q.2) :=
  itr2_ind (fun self hs x1 h q hq => tF_X13_text_23 X k45 k91 k115 self x1 h q hk45 hk91 hk115 hs hq) N x1 h q hq
theorem tf_X13_text {κ : Kx} (X : OK κ cX13_text 3 (some .int) "StruckWordsModel" 3) (h : Hp) (q : (Int32 × Hp)) (hq : f_X13_text h = some q) : J κ 0 [(0, .inr (.inr 155))] [] h (some (.inl q.1), q.2) := by
  delta f_X13_text at hq
  refine J_aload_n (pc := 0) X (j := 0) (i := 0) rfl rfl dX13_text_0 ?_
  refine J_iconst (pc := 1) X (v := 0) (by decide) dX13_text_1 ?_
  refine J_putI (pc := 2) X ly155 fp_13_1 dX13_text_2 ?_
  refine J_ltH hq (fun h1 hq => ?_)
  refine J_aload_n (pc := 5) X (j := 0) (i := 0) rfl rfl dX13_text_5 ?_
  refine J_sipush (pc := 6) X (v := 200) (by decide) dX13_text_6 ?_
  obtain ⟨h2, hc, hq⟩ := bnv_e hq
  refine J_callV (pc := 9) (as := [.inl 200]) (st := []) (st2 := []) (r1 := (none, h2)) (h2 := h2) (ky := 1) X dX13_text_9 ca_X13_taken ci_X13_taken cs_X13_taken ml_13_260 (by decide) ly155 rfl rfl (m_X13_taken _ _ _ hc) rfl rfl (Nat.le_of_ble_eq_true rfl) rfl rfl ?_
  refine J_aload_n (pc := 12) X (j := 0) (i := 0) rfl rfl dX13_text_12 ?_
  refine J_iconst (pc := 13) X (v := 0) (by decide) dX13_text_13 ?_
  refine J_putI (pc := 14) X ly155 fp_13_189 dX13_text_14 ?_
  refine J_ltH hq (fun h3 hq => ?_)
  refine J_iconst (pc := 17) X (v := 0) (by decide) dX13_text_17 ?_
  refine J_istore_n (pc := 18) X (L' := [(1, .inl 0), (0, .inr (.inr 155))]) (i := 1) rfl (by decide) rfl dX13_text_18 ?_
  refine J_aload_n (pc := 19) X (j := 1) (i := 0) rfl rfl dX13_text_19 ?_
  obtain ⟨h4, hc, hq⟩ := bnv_e hq
  refine J_callV (pc := 20) (as := []) (st := []) (st2 := []) (r1 := (none, h4)) (h2 := h4) (ky := 2) X dX13_text_20 ca_X13_next ci_X13_next cs_X13_next ml_13_201 (by decide) ly155 rfl rfl (m_X13_next _ _ hc) rfl rfl (Nat.le_of_ble_eq_true rfl) rfl rfl ?_
  refine J_sub [1, 0] rfl ?_
  refine tL_X13_text_23 X _ _ _ N0 _ _ _ ?_ ?_ ?_ hq
  · intro h25 q hq
    refine J_iconst (pc := 45) X (v := (-1)) (by decide) dX13_text_45 ?_
    refine J_aload_n (pc := 46) X (j := 0) (i := 0) rfl rfl dX13_text_46 ?_
    refine J_getI (pc := 47) X ly155 fl_13_192 dX13_text_47 ?_
    refine J_isub (pc := 50) X dX13_text_50 ?_
    obtain rfl := Option.some.inj hq
    exact J_iret (pc := 51) X dX13_text_51
  · intro h26 q hq
    refine J_iconst (pc := 91) X (v := (-1)) (by decide) dX13_text_91 ?_
    refine J_aload_n (pc := 92) X (j := 0) (i := 0) rfl rfl dX13_text_92 ?_
    refine J_getI (pc := 93) X ly155 fl_13_192 dX13_text_93 ?_
    refine J_isub (pc := 96) X dX13_text_96 ?_
    obtain rfl := Option.some.inj hq
    exact J_iret (pc := 97) X dX13_text_97
  · intro v28 h27 q hq
    refine J_aload_n (pc := 115) X (j := 0) (i := 0) rfl rfl dX13_text_115 ?_
    refine J_aload_n (pc := 116) X (j := 0) (i := 0) rfl rfl dX13_text_116 ?_
    refine J_getF (pc := 117) X (b := 163) ly155 fl_13_53 rfl dX13_text_117 ?_
    refine J_iload_n (pc := 120) X (j := 1) (i := 1) rfl rfl dX13_text_120 ?_
    obtain ⟨h29, hc, hq⟩ := bnv_e hq
    refine J_callV (pc := 121) (as := [.inr (.inr 163), .inl v28]) (st := []) (st2 := []) (r1 := (none, h29)) (h2 := h29) (ky := 1) X dX13_text_121 ca_X13_keep ci_X13_keep cs_X13_keep ml_13_279 (by decide) ly155 rfl rfl (m_X13_keep _ _ _ _ (aln_of ly163) hc) rfl rfl (Nat.le_of_ble_eq_true rfl) rfl rfl ?_
    refine J_iload_n (pc := 124) X (j := 1) (i := 1) rfl rfl dX13_text_124 ?_
    obtain rfl := Option.some.inj hq
    exact J_iret (pc := 125) X dX13_text_125
theorem m_X13_text (h : Hp) (q : (Int32 × Hp)) (hq : f_X13_text  h = some q) : ∀ l w, CT l w yX13_text cX13_text 3 (some .int) 3 [.inr (.inr 155)] h (some (.inl q.1), q.2) :=
  CT_of (L0 := [(0, .inr (.inr 155))]) (by decide) rfl (Nat.le_of_ble_eq_true rfl) (fun κ X => tf_X13_text X  h q  hq)
theorem tF_X13_lay_25 {κ : Kx} (X : OK κ cX13_lay 2 (some .int) "StruckWordsModel" 3) (k57 : Hp → Option (Int32 × Hp)) (k65 : Hp → Option (Int32 × Hp)) (self : Int32 → Hp → Option (Int32 × Hp)) (x1 : Int32) (h : Hp) (q : (Int32 × Hp)) (hk57 : ∀ (h : Hp) (q : (Int32 × Hp)), k57 h = some q → J κ 57 [] [] h (some (.inl q.1), q.2)) (hk65 : ∀ (h : Hp) (q : (Int32 × Hp)), k65 h = some q → J κ 65 [(0, .inr (.inr 155))] [] h (some (.inl q.1), q.2)) (hself : ∀ (x1 : Int32) (h : Hp) (q : (Int32 × Hp)), self x1 h = some q → J κ 25 [(0, .inr (.inr 155)), (1, .inl x1)] [] h (some (.inl q.1), q.2)) (hq : F_X13_lay_25 k57 k65 self x1 h = some q) : J κ 25 [(0, .inr (.inr 155)), (1, .inl x1)] [] h (some (.inl q.1), q.2) := by
  delta F_X13_lay_25 at hq
  refine J_iload_n (pc := 25) X (j := 1) (i := 1) rfl rfl dX13_lay_25 ?_
  refine J_aload_n (pc := 26) X (j := 0) (i := 0) rfl rfl dX13_lay_26 ?_
  refine J_getI (pc := 27) X ly155 fl_13_18 dX13_lay_27 ?_
  refine J_icmp_ge (pc := 30) (tgt := 65) X dX13_lay_30 rfl (fun c4 => ?_) (fun c4 => ?_)
  · have hq := ite_t hq c4
    refine J_sub [0] rfl ?_
    exact hk65 _ _ hq
  · have hq := ite_f hq c4
    refine J_aload_n (pc := 33) X (j := 0) (i := 0) rfl rfl dX13_lay_33 ?_
    refine J_getF (pc := 34) X (b := 163) ly155 fl_13_53 rfl dX13_lay_34 ?_
    refine J_iload_n (pc := 37) X (j := 1) (i := 1) rfl rfl dX13_lay_37 ?_
    refine J_aload_n (pc := 38) X (j := 0) (i := 0) rfl rfl dX13_lay_38 ?_
    refine J_iload_n (pc := 39) X (j := 1) (i := 1) rfl rfl dX13_lay_39 ?_
    obtain ⟨v6, h5, hc, hq⟩ := bnd_e hq
    refine J_callV (pc := 40) (as := [.inl x1]) (st := [.inl x1, .inr (.inr 163)]) (st2 := [.inl v6, .inl x1, .inr (.inr 163)]) (r1 := (some (.inl v6), h5)) (h2 := h5) (ky := 1) X dX13_lay_40 ca_X13_octet ci_X13_octet cs_X13_octet ml_13_283 (by decide) ly155 rfl rfl (m_X13_octet _ _ _ hc) rfl rfl (Nat.le_of_ble_eq_true rfl) rfl rfl ?_
    obtain ⟨g7, hq⟩ := gd hq
    refine J_iastore (pc := 43) X ly163 g7 dX13_lay_43 ?_
    refine J_ltH hq (fun h8 hq => ?_)
    refine J_aload_n (pc := 44) X (j := 0) (i := 0) rfl rfl dX13_lay_44 ?_
    refine J_aload_n (pc := 45) X (j := 0) (i := 0) rfl rfl dX13_lay_45 ?_
    refine J_getF (pc := 46) X (b := 163) ly155 fl_13_53 rfl dX13_lay_46 ?_
    refine J_iload_n (pc := 49) X (j := 1) (i := 1) rfl rfl dX13_lay_49 ?_
    obtain ⟨g9, hq⟩ := gd hq
    refine J_iaload (pc := 50) X ly163 g9 dX13_lay_50 ?_
    obtain ⟨v11, h10, hc, hq⟩ := bnd_e hq
    refine J_callV (pc := 51) (as := [.inl (h8.1 163 (x1.toNatClampNeg))]) (st := []) (st2 := [.inl v11]) (r1 := (some (.inl v11), h10)) (h2 := h10) (ky := 2) X dX13_lay_51 ca_X13_isSaying ci_X13_isSaying cs_X13_isSaying ml_13_272 (by decide) ly155 rfl rfl (m_X13_isSaying _ _ _ hc) rfl rfl (Nat.le_of_ble_eq_true rfl) rfl rfl ?_
    refine J_if_ne (pc := 54) (tgt := 59) X dX13_lay_54 rfl (fun c12 => ?_) (fun c12 => ?_)
    · have hq := ite_f hq c12
      refine J_iinc (pc := 59) X (j := 1) (v := 1) (L' := [(1, .inl (x1 + 1)), (0, .inr (.inr 155))]) rfl (by decide) (by decide) rfl dX13_lay_59 ?_
      refine J_goto (pc := 62) X (tgt := 25) dX13_lay_62 rfl ?_
      refine J_sub [1, 0] rfl ?_
      exact hself _ _ _ hq
    · have hq := ite_t hq c12
      refine J_sub [] rfl ?_
      exact hk57 _ _ hq
theorem tL_X13_lay_25 {κ : Kx} (X : OK κ cX13_lay 2 (some .int) "StruckWordsModel" 3) (k57 : Hp → Option (Int32 × Hp)) (k65 : Hp → Option (Int32 × Hp)) (N : Nat) (x1 : Int32) (h : Hp) (q : (Int32 × Hp)) (hk57 : ∀ (h : Hp) (q : (Int32 × Hp)), k57 h = some q → J κ 57 [] [] h (some (.inl q.1), q.2)) (hk65 : ∀ (h : Hp) (q : (Int32 × Hp)), k65 h = some q → J κ 65 [(0, .inr (.inr 155))] [] h (some (.inl q.1), q.2)) (hq : itr2 (F_X13_lay_25 k57 k65) N x1 h = some q) : J κ 25 [(0, .inr (.inr 155)), (1, .inl x1)] [] h (some (.inl q.1), q.2) :=
  itr2_ind (fun self hs x1 h q hq => tF_X13_lay_25 X k57 k65 self x1 h q hk57 hk65 hs hq) N x1 h q hq
theorem tf_X13_lay {κ : Kx} (X : OK κ cX13_lay 2 (some .int) "StruckWordsModel" 3) (h : Hp) (q : (Int32 × Hp)) (hq : f_X13_lay h = some q) : J κ 0 [(0, .inr (.inr 155))] [] h (some (.inl q.1), q.2) := by
  delta f_X13_lay at hq
  refine J_aload_n (pc := 0) X (j := 0) (i := 0) rfl rfl dX13_lay_0 ?_
  refine J_iconst (pc := 1) X (v := 0) (by decide) dX13_lay_1 ?_
  refine J_putI (pc := 2) X ly155 fp_13_1 dX13_lay_2 ?_
  refine J_ltH hq (fun h1 hq => ?_)
  refine J_aload_n (pc := 5) X (j := 0) (i := 0) rfl rfl dX13_lay_5 ?_
  refine J_sipush (pc := 6) X (v := 940) (by decide) dX13_lay_6 ?_
  obtain ⟨h2, hc, hq⟩ := bnv_e hq
  refine J_callV (pc := 9) (as := [.inl 940]) (st := []) (st2 := []) (r1 := (none, h2)) (h2 := h2) (ky := 1) X dX13_lay_9 ca_X13_taken ci_X13_taken cs_X13_taken ml_13_260 (by decide) ly155 rfl rfl (m_X13_taken _ _ _ hc) rfl rfl (Nat.le_of_ble_eq_true rfl) rfl rfl ?_
  refine J_aload_n (pc := 12) X (j := 0) (i := 0) rfl rfl dX13_lay_12 ?_
  refine J_getI (pc := 13) X ly155 fl_13_18 dX13_lay_13 ?_
  refine J_bipush (pc := 16) X (v := 24) (by decide) dX13_lay_16 ?_
  refine J_icmp_le (pc := 18) (tgt := 23) X dX13_lay_18 rfl (fun c3 => ?_) (fun c3 => ?_)
  · have hq := ite_t hq c3
    refine J_iconst (pc := 23) X (v := 0) (by decide) dX13_lay_23 ?_
    refine J_istore_n (pc := 24) X (L' := [(1, .inl 0), (0, .inr (.inr 155))]) (i := 1) rfl (by decide) rfl dX13_lay_24 ?_
    refine J_sub [1, 0] rfl ?_
    refine tL_X13_lay_25 X _ _ N0 _ _ _ ?_ ?_ hq
    · intro h13 q hq
      refine J_iconst (pc := 57) X (v := (-1)) (by decide) dX13_lay_57 ?_
      obtain rfl := Option.some.inj hq
      exact J_iret (pc := 58) X dX13_lay_58
    · intro h14 q hq
      refine J_aload_n (pc := 65) X (j := 0) (i := 0) rfl rfl dX13_lay_65 ?_
      refine J_aload_n (pc := 66) X (j := 0) (i := 0) rfl rfl dX13_lay_66 ?_
      refine J_getF (pc := 67) X (b := 163) ly155 fl_13_53 rfl dX13_lay_67 ?_
      refine J_aload_n (pc := 70) X (j := 0) (i := 0) rfl rfl dX13_lay_70 ?_
      refine J_getI (pc := 71) X ly155 fl_13_18 dX13_lay_71 ?_
      obtain ⟨h15, hc, hq⟩ := bnv_e hq
      refine J_callV (pc := 74) (as := [.inr (.inr 163), .inl (h14.1 155 3)]) (st := []) (st2 := []) (r1 := (none, h15)) (h2 := h15) (ky := 1) X dX13_lay_74 ca_X13_keep ci_X13_keep cs_X13_keep ml_13_279 (by decide) ly155 rfl rfl (m_X13_keep _ _ _ _ (aln_of ly163) hc) rfl rfl (Nat.le_of_ble_eq_true rfl) rfl rfl ?_
      refine J_aload_n (pc := 77) X (j := 0) (i := 0) rfl rfl dX13_lay_77 ?_
      refine J_getI (pc := 78) X ly155 fl_13_18 dX13_lay_78 ?_
      obtain rfl := Option.some.inj hq
      exact J_iret (pc := 81) X dX13_lay_81
  · have hq := ite_f hq c3
    refine J_iconst (pc := 21) X (v := (-1)) (by decide) dX13_lay_21 ?_
    obtain rfl := Option.some.inj hq
    exact J_iret (pc := 22) X dX13_lay_22
theorem m_X13_lay (h : Hp) (q : (Int32 × Hp)) (hq : f_X13_lay  h = some q) : ∀ l w, CT l w yX13_lay cX13_lay 2 (some .int) 3 [.inr (.inr 155)] h (some (.inl q.1), q.2) :=
  CT_of (L0 := [(0, .inr (.inr 155))]) (by decide) rfl (Nat.le_of_ble_eq_true rfl) (fun κ X => tf_X13_lay X  h q  hq)
theorem tf_X13_draw {κ : Kx} (X : OK κ cX13_draw 2 (some .int) "StruckWordsModel" 1) (x1 : Int32) (h : Hp) (q : (Int32 × Hp)) (hq : f_X13_draw x1 h = some q) : J κ 0 [(0, .inr (.inr 155)), (1, .inl x1)] [] h (some (.inl q.1), q.2) := by
  delta f_X13_draw at hq
  refine J_aload_n (pc := 0) X (j := 0) (i := 0) rfl rfl dX13_draw_0 ?_
  refine J_aload_n (pc := 1) X (j := 0) (i := 0) rfl rfl dX13_draw_1 ?_
  refine J_getI (pc := 2) X ly155 fl_13_287 dX13_draw_2 ?_
  refine J_ldcw (pc := 5) X cn_13_290 dX13_draw_5 ?_
  refine J_imul (pc := 8) X dX13_draw_8 ?_
  refine J_sipush (pc := 9) X (v := 12345) (by decide) dX13_draw_9 ?_
  refine J_iadd (pc := 12) X dX13_draw_12 ?_
  refine J_putI (pc := 13) X ly155 fp_13_287 dX13_draw_13 ?_
  refine J_ltH hq (fun h1 hq => ?_)
  refine J_aload_n (pc := 16) X (j := 0) (i := 0) rfl rfl dX13_draw_16 ?_
  refine J_getI (pc := 17) X ly155 fl_13_287 dX13_draw_17 ?_
  refine J_bipush (pc := 20) X (v := 8) (by decide) dX13_draw_20 ?_
  refine J_iushr (pc := 22) X dX13_draw_22 ?_
  refine J_iload_n (pc := 23) X (j := 1) (i := 1) rfl rfl dX13_draw_23 ?_
  obtain ⟨g2, hq⟩ := gd hq
  refine J_irem (pc := 24) X (nz_ne g2) dX13_draw_24 ?_
  obtain rfl := Option.some.inj hq
  exact J_iret (pc := 25) X dX13_draw_25
theorem m_X13_draw (x1 : Int32) (h : Hp) (q : (Int32 × Hp)) (hq : f_X13_draw x1 h = some q) : ∀ l w, CT l w yX13_draw cX13_draw 2 (some .int) 1 [.inr (.inr 155), .inl x1] h (some (.inl q.1), q.2) :=
  CT_of (L0 := [(0, .inr (.inr 155)), (1, .inl x1)]) (by decide) rfl (Nat.le_of_ble_eq_true rfl) (fun κ X => tf_X13_draw X x1 h q  hq)
theorem tF_X13_drawn_31 {κ : Kx} (X : OK κ cX13_drawn 8 (some .int) "StruckWordsModel" 2) (x1 : Int32) (x2 : Int32) (k61 : Int32 → Hp → Option (Int32 × Hp)) (self : Int32 → Int32 → Hp → Option (Int32 × Hp)) (x3 : Int32) (x4 : Int32) (h : Hp) (q : (Int32 × Hp)) (hk61 : ∀ (x3 : Int32) (h : Hp) (q : (Int32 × Hp)), k61 x3 h = some q → J κ 61 [(0, .inr (.inr 155)), (1, .inl x1), (2, .inl x2), (3, .inl x3)] [] h (some (.inl q.1), q.2)) (hself : ∀ (x3 : Int32) (x4 : Int32) (h : Hp) (q : (Int32 × Hp)), self x3 x4 h = some q → J κ 31 [(0, .inr (.inr 155)), (1, .inl x1), (2, .inl x2), (3, .inl x3), (4, .inl x4)] [] h (some (.inl q.1), q.2)) (hq : F_X13_drawn_31 x1 x2 k61 self x3 x4 h = some q) : J κ 31 [(0, .inr (.inr 155)), (1, .inl x1), (2, .inl x2), (3, .inl x3), (4, .inl x4)] [] h (some (.inl q.1), q.2) := by
  delta F_X13_drawn_31 at hq
  refine J_iload (pc := 31) X (j := 4) rfl dX13_drawn_31 ?_
  refine J_aload_n (pc := 33) X (j := 0) (i := 0) rfl rfl dX13_drawn_33 ?_
  refine J_getF (pc := 34) X (b := 157) ly155 fl_13_33 rfl dX13_drawn_34 ?_
  refine J_iconst (pc := 37) X (v := 2) (by decide) dX13_drawn_37 ?_
  refine J_iaload (pc := 38) X ly157 (by decide) dX13_drawn_38 ?_
  refine J_icmp_ge (pc := 39) (tgt := 61) X dX13_drawn_39 rfl (fun c6 => ?_) (fun c6 => ?_)
  · have hq := ite_t hq c6
    refine J_sub [0, 1, 2, 3] rfl ?_
    exact hk61 _ _ _ hq
  · have hq := ite_f hq c6
    refine J_iload_n (pc := 42) X (j := 3) (i := 3) rfl rfl dX13_drawn_42 ?_
    refine J_aload_n (pc := 43) X (j := 0) (i := 0) rfl rfl dX13_drawn_43 ?_
    refine J_getF (pc := 44) X (b := 157) ly155 fl_13_33 rfl dX13_drawn_44 ?_
    refine J_bipush (pc := 47) X (v := 48) (by decide) dX13_drawn_47 ?_
    refine J_iload (pc := 49) X (j := 4) rfl dX13_drawn_49 ?_
    refine J_iadd (pc := 51) X dX13_drawn_51 ?_
    obtain ⟨g7, hq⟩ := gd hq
    refine J_iaload (pc := 52) X ly157 g7 dX13_drawn_52 ?_
    refine J_iadd (pc := 53) X dX13_drawn_53 ?_
    refine J_ltI hq (fun v8 hq => ?_)
    refine J_istore_n (pc := 54) X (L' := [(3, .inl v8), (0, .inr (.inr 155)), (1, .inl x1), (2, .inl x2), (4, .inl x4)]) (i := 3) rfl (by decide) rfl dX13_drawn_54 ?_
    refine J_iinc (pc := 55) X (j := 4) (v := 1) (L' := [(4, .inl (x4 + 1)), (3, .inl v8), (0, .inr (.inr 155)), (1, .inl x1), (2, .inl x2)]) rfl (by decide) (by decide) rfl dX13_drawn_55 ?_
    refine J_goto (pc := 58) X (tgt := 31) dX13_drawn_58 rfl ?_
    refine J_sub [2, 3, 4, 1, 0] rfl ?_
    exact hself _ _ _ _ hq
theorem tL_X13_drawn_31 {κ : Kx} (X : OK κ cX13_drawn 8 (some .int) "StruckWordsModel" 2) (x1 : Int32) (x2 : Int32) (k61 : Int32 → Hp → Option (Int32 × Hp)) (N : Nat) (x3 : Int32) (x4 : Int32) (h : Hp) (q : (Int32 × Hp)) (hk61 : ∀ (x3 : Int32) (h : Hp) (q : (Int32 × Hp)), k61 x3 h = some q → J κ 61 [(0, .inr (.inr 155)), (1, .inl x1), (2, .inl x2), (3, .inl x3)] [] h (some (.inl q.1), q.2)) (hq : itr3 (F_X13_drawn_31 x1 x2 k61) N x3 x4 h = some q) : J κ 31 [(0, .inr (.inr 155)), (1, .inl x1), (2, .inl x2), (3, .inl x3), (4, .inl x4)] [] h (some (.inl q.1), q.2) :=
  itr3_ind (fun self hs x3 x4 h q hq => tF_X13_drawn_31 X x1 x2 k61 self x3 x4 h q hk61 hs hq) N x3 x4 h q hq
theorem tF_X13_drawn_94 {κ : Kx} (X : OK κ cX13_drawn 8 (some .int) "StruckWordsModel" 2) (x1 : Int32) (x3 : Int32) (x4 : Int32) (x5 : Int32) (k122 : Int32 → Hp → Option (Int32 × Hp)) (self : Int32 → Int32 → Hp → Option (Int32 × Hp)) (x6 : Int32) (x7 : Int32) (h : Hp) (q : (Int32 × Hp)) (hk122 : ∀ (x6 : Int32) (h : Hp) (q : (Int32 × Hp)), k122 x6 h = some q → J κ 122 [(0, .inr (.inr 155)), (1, .inl x1), (3, .inl x3), (4, .inl x4), (6, .inl x6)] [] h (some (.inl q.1), q.2)) (hself : ∀ (x6 : Int32) (x7 : Int32) (h : Hp) (q : (Int32 × Hp)), self x6 x7 h = some q → J κ 94 [(0, .inr (.inr 155)), (1, .inl x1), (3, .inl x3), (4, .inl x4), (5, .inl x5), (6, .inl x6), (7, .inl x7)] [] h (some (.inl q.1), q.2)) (hq : F_X13_drawn_94 x1 x3 x4 x5 k122 self x6 x7 h = some q) : J κ 94 [(0, .inr (.inr 155)), (1, .inl x1), (3, .inl x3), (4, .inl x4), (5, .inl x5), (6, .inl x6), (7, .inl x7)] [] h (some (.inl q.1), q.2) := by
  delta F_X13_drawn_94 at hq
  refine J_iload (pc := 94) X (j := 6) rfl dX13_drawn_94 ?_
  refine J_iload (pc := 96) X (j := 4) rfl dX13_drawn_96 ?_
  refine J_icmp_gt (pc := 98) (tgt := 122) X dX13_drawn_98 rfl (fun c16 => ?_) (fun c16 => ?_)
  · have hq := ite_t hq c16
    refine J_sub [0, 1, 2, 3, 5] rfl ?_
    exact hk122 _ _ _ hq
  · have hq := ite_f hq c16
    refine J_iinc (pc := 101) X (j := 5) (v := 1) (L' := [(6, .inl (x6 + 1)), (0, .inr (.inr 155)), (1, .inl x1), (3, .inl x3), (4, .inl x4), (5, .inl x5), (7, .inl x7)]) rfl (by decide) (by decide) rfl dX13_drawn_101 ?_
    refine J_iload (pc := 104) X (j := 6) rfl dX13_drawn_104 ?_
    refine J_aload_n (pc := 106) X (j := 1) (i := 0) rfl rfl dX13_drawn_106 ?_
    refine J_getF (pc := 107) X (b := 157) ly155 fl_13_33 rfl dX13_drawn_107 ?_
    refine J_bipush (pc := 110) X (v := 48) (by decide) dX13_drawn_110 ?_
    refine J_iload (pc := 112) X (j := 0) rfl dX13_drawn_112 ?_
    refine J_iadd (pc := 114) X dX13_drawn_114 ?_
    obtain ⟨g17, hq⟩ := gd hq
    refine J_iaload (pc := 115) X ly157 g17 dX13_drawn_115 ?_
    refine J_iadd (pc := 116) X dX13_drawn_116 ?_
    refine J_ltI hq (fun v18 hq => ?_)
    refine J_istore (pc := 117) X (L' := [(7, .inl v18), (6, .inl (x6 + 1)), (0, .inr (.inr 155)), (1, .inl x1), (3, .inl x3), (4, .inl x4), (5, .inl x5)]) (by decide) rfl dX13_drawn_117 ?_
    refine J_goto (pc := 119) X (tgt := 94) dX13_drawn_119 rfl ?_
    refine J_sub [2, 3, 4, 5, 6, 1, 0] rfl ?_
    exact hself _ _ _ _ hq
theorem tL_X13_drawn_94 {κ : Kx} (X : OK κ cX13_drawn 8 (some .int) "StruckWordsModel" 2) (x1 : Int32) (x3 : Int32) (x4 : Int32) (x5 : Int32) (k122 : Int32 → Hp → Option (Int32 × Hp)) (N : Nat) (x6 : Int32) (x7 : Int32) (h : Hp) (q : (Int32 × Hp)) (hk122 : ∀ (x6 : Int32) (h : Hp) (q : (Int32 × Hp)), k122 x6 h = some q → J κ 122 [(0, .inr (.inr 155)), (1, .inl x1), (3, .inl x3), (4, .inl x4), (6, .inl x6)] [] h (some (.inl q.1), q.2)) (hq : itr3 (F_X13_drawn_94 x1 x3 x4 x5 k122) N x6 x7 h = some q) : J κ 94 [(0, .inr (.inr 155)), (1, .inl x1), (3, .inl x3), (4, .inl x4), (5, .inl x5), (6, .inl x6), (7, .inl x7)] [] h (some (.inl q.1), q.2) :=
  itr3_ind (fun self hs x6 x7 h q hq => tF_X13_drawn_94 X x1 x3 x4 x5 k122 self x6 x7 h q hk122 hs hq) N x6 x7 h q hq
theorem tF_X13_drawn_69 {κ : Kx} (X : OK κ cX13_drawn 8 (some .int) "StruckWordsModel" 2) (x1 : Int32) (x3 : Int32) (k137 : Hp → Option (Int32 × Hp)) (self : Int32 → Hp → Option (Int32 × Hp)) (x4 : Int32) (h : Hp) (q : (Int32 × Hp)) (hk137 : ∀ (h : Hp) (q : (Int32 × Hp)), k137 h = some q → J κ 137 [(0, .inr (.inr 155)), (1, .inl x1)] [] h (some (.inl q.1), q.2)) (hself : ∀ (x4 : Int32) (h : Hp) (q : (Int32 × Hp)), self x4 h = some q → J κ 69 [(0, .inr (.inr 155)), (1, .inl x1), (3, .inl x3), (4, .inl x4)] [] h (some (.inl q.1), q.2)) (hq : F_X13_drawn_69 x1 x3 k137 self x4 h = some q) : J κ 69 [(0, .inr (.inr 155)), (1, .inl x1), (3, .inl x3), (4, .inl x4)] [] h (some (.inl q.1), q.2) := by
  delta F_X13_drawn_69 at hq
  refine J_iload (pc := 69) X (j := 3) rfl dX13_drawn_69 ?_
  refine J_iload_n (pc := 71) X (j := 1) (i := 1) rfl rfl dX13_drawn_71 ?_
  refine J_icmp_ge (pc := 72) (tgt := 137) X dX13_drawn_72 rfl (fun c12 => ?_) (fun c12 => ?_)
  · have hq := ite_t hq c12
    refine J_sub [0, 1] rfl ?_
    exact hk137 _ _ hq
  · have hq := ite_f hq c12
    refine J_aload_n (pc := 75) X (j := 0) (i := 0) rfl rfl dX13_drawn_75 ?_
    refine J_iload_n (pc := 76) X (j := 2) (i := 3) rfl rfl dX13_drawn_76 ?_
    obtain ⟨v14, h13, hc, hq⟩ := bnd_e hq
    refine J_callV (pc := 77) (as := [.inl x3]) (st := []) (st2 := [.inl v14]) (r1 := (some (.inl v14), h13)) (h2 := h13) (ky := 1) X dX13_drawn_77 ca_X13_draw ci_X13_draw cs_X13_draw ml_13_291 (by decide) ly155 rfl rfl (m_X13_draw _ _ _ hc) rfl rfl (Nat.le_of_ble_eq_true rfl) rfl rfl ?_
    refine J_istore (pc := 80) X (L' := [(5, .inl v14), (0, .inr (.inr 155)), (1, .inl x1), (3, .inl x3), (4, .inl x4)]) (by decide) rfl dX13_drawn_80 ?_
    refine J_iconst (pc := 82) X (v := 0) (by decide) dX13_drawn_82 ?_
    refine J_istore (pc := 83) X (L' := [(6, .inl 0), (5, .inl v14), (0, .inr (.inr 155)), (1, .inl x1), (3, .inl x3), (4, .inl x4)]) (by decide) rfl dX13_drawn_83 ?_
    refine J_aload_n (pc := 85) X (j := 2) (i := 0) rfl rfl dX13_drawn_85 ?_
    refine J_getF (pc := 86) X (b := 157) ly155 fl_13_33 rfl dX13_drawn_86 ?_
    refine J_bipush (pc := 89) X (v := 48) (by decide) dX13_drawn_89 ?_
    refine J_iaload (pc := 91) X ly157 (by decide) dX13_drawn_91 ?_
    refine J_ltI hq (fun v15 hq => ?_)
    refine J_istore (pc := 92) X (L' := [(7, .inl v15), (6, .inl 0), (5, .inl v14), (0, .inr (.inr 155)), (1, .inl x1), (3, .inl x3), (4, .inl x4)]) (by decide) rfl dX13_drawn_92 ?_
    refine J_sub [3, 4, 5, 6, 2, 1, 0] rfl ?_
    refine tL_X13_drawn_94 X _ _ _ _ _ N0 _ _ _ _ ?_ hq
    · intro v20 h19 q hq
      refine J_aload_n (pc := 122) X (j := 0) (i := 0) rfl rfl dX13_drawn_122 ?_
      refine J_getF (pc := 123) X (b := 163) ly155 fl_13_53 rfl dX13_drawn_123 ?_
      refine J_iload (pc := 126) X (j := 3) rfl dX13_drawn_126 ?_
      refine J_iload (pc := 128) X (j := 4) rfl dX13_drawn_128 ?_
      obtain ⟨g21, hq⟩ := gd hq
      refine J_iastore (pc := 130) X ly163 g21 dX13_drawn_130 ?_
      refine J_ltH hq (fun h22 hq => ?_)
      refine J_iinc (pc := 131) X (j := 3) (v := 1) (L' := [(4, .inl (x4 + 1)), (0, .inr (.inr 155)), (1, .inl x1), (3, .inl x3), (6, .inl v20)]) rfl (by decide) (by decide) rfl dX13_drawn_131 ?_
      refine J_goto (pc := 134) X (tgt := 69) dX13_drawn_134 rfl ?_
      refine J_sub [1, 2, 3, 0] rfl ?_
      exact hself _ _ _ hq
theorem tL_X13_drawn_69 {κ : Kx} (X : OK κ cX13_drawn 8 (some .int) "StruckWordsModel" 2) (x1 : Int32) (x3 : Int32) (k137 : Hp → Option (Int32 × Hp)) (N : Nat) (x4 : Int32) (h : Hp) (q : (Int32 × Hp)) (hk137 : ∀ (h : Hp) (q : (Int32 × Hp)), k137 h = some q → J κ 137 [(0, .inr (.inr 155)), (1, .inl x1)] [] h (some (.inl q.1), q.2)) (hq : itr2 (F_X13_drawn_69 x1 x3 k137) N x4 h = some q) : J κ 69 [(0, .inr (.inr 155)), (1, .inl x1), (3, .inl x3), (4, .inl x4)] [] h (some (.inl q.1), q.2) :=
  itr2_ind (fun self hs x4 h q hq => tF_X13_drawn_69 X x1 x3 k137 self x4 h q hk137 hs hq) N x4 h q hq
theorem tf_X13_drawn {κ : Kx} (X : OK κ cX13_drawn 8 (some .int) "StruckWordsModel" 2) (x1 : Int32) (x2 : Int32) (h : Hp) (q : (Int32 × Hp)) (hq : f_X13_drawn x1 x2 h = some q) : J κ 0 [(0, .inr (.inr 155)), (1, .inl x1), (2, .inl x2)] [] h (some (.inl q.1), q.2) := by
  delta f_X13_drawn at hq
  refine J_aload_n (pc := 0) X (j := 0) (i := 0) rfl rfl dX13_drawn_0 ?_
  refine J_iconst (pc := 1) X (v := 0) (by decide) dX13_drawn_1 ?_
  refine J_putI (pc := 2) X ly155 fp_13_1 dX13_drawn_2 ?_
  refine J_ltH hq (fun h1 hq => ?_)
  refine J_iload_n (pc := 5) X (j := 1) (i := 1) rfl rfl dX13_drawn_5 ?_
  refine J_iconst (pc := 6) X (v := 1) (by decide) dX13_drawn_6 ?_
  refine J_bipush (pc := 7) X (v := 24) (by decide) dX13_drawn_7 ?_
  obtain ⟨v3, h2, hc, hq⟩ := bnd_e hq
  refine J_callS (pc := 9) (as := [.inl x1, .inl 1, .inl 24]) (st := []) (st2 := [.inl v3]) (r1 := (some (.inl v3), h2)) (h2 := h2) (ky := 1) X dX13_drawn_9 ca_X13_isIn cz_X13_isIn ml_13_204 (by decide) (m_X13_isIn _ _ _ _ _ hc) rfl rfl (Nat.le_of_ble_eq_true rfl) rfl rfl ?_
  refine J_if_eq (pc := 12) (tgt := 24) X dX13_drawn_12 rfl (fun c4 => ?_) (fun c4 => ?_)
  · have hq := ite_t hq c4
    refine J_iconst (pc := 24) X (v := (-1)) (by decide) dX13_drawn_24 ?_
    obtain rfl := Option.some.inj hq
    exact J_iret (pc := 25) X dX13_drawn_25
  · have hq := ite_f hq c4
    refine J_aload_n (pc := 15) X (j := 0) (i := 0) rfl rfl dX13_drawn_15 ?_
    refine J_getF (pc := 16) X (b := 157) ly155 fl_13_33 rfl dX13_drawn_16 ?_
    refine J_iconst (pc := 19) X (v := 2) (by decide) dX13_drawn_19 ?_
    refine J_iaload (pc := 20) X ly157 (by decide) dX13_drawn_20 ?_
    refine J_if_ne (pc := 21) (tgt := 26) X dX13_drawn_21 rfl (fun c5 => ?_) (fun c5 => ?_)
    · have hq := ite_f hq c5
      refine J_iconst (pc := 26) X (v := 0) (by decide) dX13_drawn_26 ?_
      refine J_istore_n (pc := 27) X (L' := [(3, .inl 0), (0, .inr (.inr 155)), (1, .inl x1), (2, .inl x2)]) (i := 3) rfl (by decide) rfl dX13_drawn_27 ?_
      refine J_iconst (pc := 28) X (v := 0) (by decide) dX13_drawn_28 ?_
      refine J_istore (pc := 29) X (L' := [(4, .inl 0), (3, .inl 0), (0, .inr (.inr 155)), (1, .inl x1), (2, .inl x2)]) (by decide) rfl dX13_drawn_29 ?_
      refine J_sub [2, 3, 4, 1, 0] rfl ?_
      refine tL_X13_drawn_31 X _ _ _ N0 _ _ _ _ ?_ hq
      · intro v10 h9 q hq
        refine J_aload_n (pc := 61) X (j := 0) (i := 0) rfl rfl dX13_drawn_61 ?_
        refine J_iload_n (pc := 62) X (j := 2) (i := 2) rfl rfl dX13_drawn_62 ?_
        refine J_putI (pc := 63) X ly155 fp_13_287 dX13_drawn_63 ?_
        refine J_ltH hq (fun h11 hq => ?_)
        refine J_iconst (pc := 66) X (v := 0) (by decide) dX13_drawn_66 ?_
        refine J_istore (pc := 67) X (L' := [(4, .inl 0), (0, .inr (.inr 155)), (1, .inl x1), (2, .inl x2), (3, .inl v10)]) (by decide) rfl dX13_drawn_67 ?_
        refine J_sub [1, 2, 4, 0] rfl ?_
        refine tL_X13_drawn_69 X _ _ _ N0 _ _ _ ?_ hq
        · intro h23 q hq
          refine J_aload_n (pc := 137) X (j := 0) (i := 0) rfl rfl dX13_drawn_137 ?_
          refine J_aload_n (pc := 138) X (j := 0) (i := 0) rfl rfl dX13_drawn_138 ?_
          refine J_getF (pc := 139) X (b := 163) ly155 fl_13_53 rfl dX13_drawn_139 ?_
          refine J_iload_n (pc := 142) X (j := 1) (i := 1) rfl rfl dX13_drawn_142 ?_
          obtain ⟨h24, hc, hq⟩ := bnv_e hq
          refine J_callV (pc := 143) (as := [.inr (.inr 163), .inl x1]) (st := []) (st2 := []) (r1 := (none, h24)) (h2 := h24) (ky := 1) X dX13_drawn_143 ca_X13_keep ci_X13_keep cs_X13_keep ml_13_279 (by decide) ly155 rfl rfl (m_X13_keep _ _ _ _ (aln_of ly163) hc) rfl rfl (Nat.le_of_ble_eq_true rfl) rfl rfl ?_
          refine J_iload_n (pc := 146) X (j := 1) (i := 1) rfl rfl dX13_drawn_146 ?_
          obtain rfl := Option.some.inj hq
          exact J_iret (pc := 147) X dX13_drawn_147
    · have hq := ite_t hq c5
      refine J_iconst (pc := 24) X (v := (-1)) (by decide) dX13_drawn_24 ?_
      obtain rfl := Option.some.inj hq
      exact J_iret (pc := 25) X dX13_drawn_25
theorem m_X13_drawn (x1 : Int32) (x2 : Int32) (h : Hp) (q : (Int32 × Hp)) (hq : f_X13_drawn x1 x2 h = some q) : ∀ l w, CT l w yX13_drawn cX13_drawn 8 (some .int) 2 [.inr (.inr 155), .inl x1, .inl x2] h (some (.inl q.1), q.2) :=
  CT_of (L0 := [(0, .inr (.inr 155)), (1, .inl x1), (2, .inl x2)]) (by decide) rfl (Nat.le_of_ble_eq_true rfl) (fun κ X => tf_X13_drawn X x1 x2 h q  hq)
theorem tf_X13_isStruck {κ : Kx} (X : OK κ cX13_isStruck 3 (some .boolean) "StruckWordsModel" 1) (x1 : Int32) (x2 : Int32) (h : Hp) (q : (Int32 × Hp)) (hq : f_X13_isStruck x1 x2 h = some q) : J κ 0 [(0, .inr (.inr 155)), (1, .inl x1), (2, .inl x2)] [] h (some (.inl q.1), q.2) := by
  delta f_X13_isStruck at hq
  refine J_iload_n (pc := 0) X (j := 1) (i := 1) rfl rfl dX13_isStruck_0 ?_
  refine J_if_le (pc := 1) (tgt := 28) X dX13_isStruck_1 rfl (fun c1 => ?_) (fun c1 => ?_)
  · have hq := ite_t hq c1
    refine J_iconst (pc := 28) X (v := 0) (by decide) dX13_isStruck_28 ?_
    obtain rfl := Option.some.inj hq
    exact J_zret (pc := 29) X (by decide) dX13_isStruck_29
  · have hq := ite_f hq c1
    refine J_iload_n (pc := 4) X (j := 2) (i := 2) rfl rfl dX13_isStruck_4 ?_
    refine J_iload_n (pc := 5) X (j := 1) (i := 1) rfl rfl dX13_isStruck_5 ?_
    refine J_icmp_lt (pc := 6) (tgt := 28) X dX13_isStruck_6 rfl (fun c2 => ?_) (fun c2 => ?_)
    · have hq := ite_t hq c2
      refine J_iconst (pc := 28) X (v := 0) (by decide) dX13_isStruck_28 ?_
      obtain rfl := Option.some.inj hq
      exact J_zret (pc := 29) X (by decide) dX13_isStruck_29
    · have hq := ite_f hq c2
      refine J_iload_n (pc := 9) X (j := 2) (i := 2) rfl rfl dX13_isStruck_9 ?_
      refine J_iload_n (pc := 10) X (j := 1) (i := 1) rfl rfl dX13_isStruck_10 ?_
      refine J_isub (pc := 11) X dX13_isStruck_11 ?_
      refine J_aload_n (pc := 12) X (j := 0) (i := 0) rfl rfl dX13_isStruck_12 ?_
      refine J_getI (pc := 13) X ly155 fl_13_294 dX13_isStruck_13 ?_
      obtain ⟨g3, hq⟩ := gd hq
      refine J_irem (pc := 16) X (nz_ne g3) dX13_isStruck_16 ?_
      refine J_aload_n (pc := 17) X (j := 0) (i := 0) rfl rfl dX13_isStruck_17 ?_
      refine J_getI (pc := 18) X ly155 fl_13_297 dX13_isStruck_18 ?_
      refine J_icmp_ge (pc := 21) (tgt := 28) X dX13_isStruck_21 rfl (fun c4 => ?_) (fun c4 => ?_)
      · have hq := ite_t hq c4
        refine J_iconst (pc := 28) X (v := 0) (by decide) dX13_isStruck_28 ?_
        obtain rfl := Option.some.inj hq
        exact J_zret (pc := 29) X (by decide) dX13_isStruck_29
      · have hq := ite_f hq c4
        refine J_iconst (pc := 24) X (v := 1) (by decide) dX13_isStruck_24 ?_
        refine J_goto (pc := 25) X (tgt := 29) dX13_isStruck_25 rfl ?_
        obtain rfl := Option.some.inj hq
        exact J_zret (pc := 29) X (by decide) dX13_isStruck_29
theorem m_X13_isStruck (x1 : Int32) (x2 : Int32) (h : Hp) (q : (Int32 × Hp)) (hq : f_X13_isStruck x1 x2 h = some q) : ∀ l w, CT l w yX13_isStruck cX13_isStruck 3 (some .boolean) 1 [.inr (.inr 155), .inl x1, .inl x2] h (some (.inl q.1), q.2) :=
  CT_of (L0 := [(0, .inr (.inr 155)), (1, .inl x1), (2, .inl x2)]) (by decide) rfl (Nat.le_of_ble_eq_true rfl) (fun κ X => tf_X13_isStruck X x1 x2 h q  hq)
theorem tF_X13_leave_6 {κ : Kx} (X : OK κ cX13_leave 6 (none) "StruckWordsModel" 2) (x1 : Nat) (x2 : Int32) (x3 : Int32) (k47 : Int32 → Hp → Option Hp) (self : Int32 → Int32 → Hp → Option Hp) (x4 : Int32) (x5 : Int32) (h : Hp) (q : Hp) (lx1 : lay x1 = some (.inr (0, (aln x1)))) (hk47 : ∀ (x4 : Int32) (h : Hp) (q : Hp), k47 x4 h = some q → J κ 47 [(0, .inr (.inr 155)), (4, .inl x4)] [] h (none, q)) (hself : ∀ (x4 : Int32) (x5 : Int32) (h : Hp) (q : Hp), self x4 x5 h = some q → J κ 6 [(0, .inr (.inr 155)), (1, .inr (.inr x1)), (2, .inl x2), (3, .inl x3), (4, .inl x4), (5, .inl x5)] [] h (none, q)) (hq : F_X13_leave_6 x1 x2 x3 k47 self x4 x5 h = some q) : J κ 6 [(0, .inr (.inr 155)), (1, .inr (.inr x1)), (2, .inl x2), (3, .inl x3), (4, .inl x4), (5, .inl x5)] [] h (none, q) := by
  delta F_X13_leave_6 at hq
  refine J_iload (pc := 6) X (j := 5) rfl dX13_leave_6 ?_
  refine J_iload_n (pc := 8) X (j := 2) (i := 2) rfl rfl dX13_leave_8 ?_
  refine J_icmp_ge (pc := 9) (tgt := 47) X dX13_leave_9 rfl (fun c1 => ?_) (fun c1 => ?_)
  · have hq := ite_t hq c1
    refine J_sub [0, 4] rfl ?_
    exact hk47 _ _ _ hq
  · have hq := ite_f hq c1
    refine J_aload_n (pc := 12) X (j := 0) (i := 0) rfl rfl dX13_leave_12 ?_
    refine J_iload_n (pc := 13) X (j := 3) (i := 3) rfl rfl dX13_leave_13 ?_
    refine J_iload (pc := 14) X (j := 5) rfl dX13_leave_14 ?_
    refine J_iconst (pc := 16) X (v := 1) (by decide) dX13_leave_16 ?_
    refine J_iadd (pc := 17) X dX13_leave_17 ?_
    obtain ⟨v3, h2, hc, hq⟩ := bnd_e hq
    refine J_callV (pc := 18) (as := [.inl x3, .inl (x5 + 1)]) (st := []) (st2 := [.inl v3]) (r1 := (some (.inl v3), h2)) (h2 := h2) (ky := 1) X dX13_leave_18 ca_X13_isStruck ci_X13_isStruck cs_X13_isStruck ml_13_300 (by decide) ly155 rfl rfl (m_X13_isStruck _ _ _ _ hc) rfl rfl (Nat.le_of_ble_eq_true rfl) rfl rfl ?_
    refine J_if_eq (pc := 21) (tgt := 27) X dX13_leave_21 rfl (fun c4 => ?_) (fun c4 => ?_)
    · have hq := ite_t hq c4
      refine J_aload_n (pc := 27) X (j := 0) (i := 0) rfl rfl dX13_leave_27 ?_
      refine J_getF (pc := 28) X (b := 162) ly155 fl_13_50 rfl dX13_leave_28 ?_
      refine J_iload (pc := 31) X (j := 4) rfl dX13_leave_31 ?_
      refine J_aload_n (pc := 33) X (j := 1) (i := 1) rfl rfl dX13_leave_33 ?_
      refine J_iload (pc := 34) X (j := 5) rfl dX13_leave_34 ?_
      obtain ⟨g5, hq⟩ := gd hq
      refine J_iaload (pc := 36) X lx1 g5 dX13_leave_36 ?_
      obtain ⟨g6, hq⟩ := gd hq
      refine J_iastore (pc := 37) X ly162 g6 dX13_leave_37 ?_
      refine J_ltH hq (fun h7 hq => ?_)
      refine J_iinc (pc := 38) X (j := 4) (v := 1) (L' := [(4, .inl (x4 + 1)), (0, .inr (.inr 155)), (1, .inr (.inr x1)), (2, .inl x2), (3, .inl x3), (5, .inl x5)]) rfl (by decide) (by decide) rfl dX13_leave_38 ?_
      refine J_iinc (pc := 41) X (j := 5) (v := 1) (L' := [(5, .inl (x5 + 1)), (4, .inl (x4 + 1)), (0, .inr (.inr 155)), (1, .inr (.inr x1)), (2, .inl x2), (3, .inl x3)]) rfl (by decide) (by decide) rfl dX13_leave_41 ?_
      refine J_goto (pc := 44) X (tgt := 6) dX13_leave_44 rfl ?_
      refine J_sub [2, 3, 4, 5, 1, 0] rfl ?_
      exact hself _ _ _ _ hq
    · have hq := ite_f hq c4
      refine J_goto (pc := 24) X (tgt := 41) dX13_leave_24 rfl ?_
      refine J_iinc (pc := 41) X (j := 5) (v := 1) (L' := [(5, .inl (x5 + 1)), (0, .inr (.inr 155)), (1, .inr (.inr x1)), (2, .inl x2), (3, .inl x3), (4, .inl x4)]) rfl (by decide) (by decide) rfl dX13_leave_41 ?_
      refine J_goto (pc := 44) X (tgt := 6) dX13_leave_44 rfl ?_
      refine J_sub [1, 2, 3, 4, 5, 0] rfl ?_
      exact hself _ _ _ _ hq
theorem tL_X13_leave_6 {κ : Kx} (X : OK κ cX13_leave 6 (none) "StruckWordsModel" 2) (x1 : Nat) (x2 : Int32) (x3 : Int32) (k47 : Int32 → Hp → Option Hp) (N : Nat) (x4 : Int32) (x5 : Int32) (h : Hp) (q : Hp) (lx1 : lay x1 = some (.inr (0, (aln x1)))) (hk47 : ∀ (x4 : Int32) (h : Hp) (q : Hp), k47 x4 h = some q → J κ 47 [(0, .inr (.inr 155)), (4, .inl x4)] [] h (none, q)) (hq : itr3 (F_X13_leave_6 x1 x2 x3 k47) N x4 x5 h = some q) : J κ 6 [(0, .inr (.inr 155)), (1, .inr (.inr x1)), (2, .inl x2), (3, .inl x3), (4, .inl x4), (5, .inl x5)] [] h (none, q) :=
  itr3_ind (fun self hs x4 x5 h q hq => tF_X13_leave_6 X x1 x2 x3 k47 self x4 x5 h q lx1 hk47 hs hq) N x4 x5 h q hq
theorem tf_X13_leave {κ : Kx} (X : OK κ cX13_leave 6 (none) "StruckWordsModel" 2) (x1 : Nat) (x2 : Int32) (x3 : Int32) (h : Hp) (q : Hp) (lx1 : lay x1 = some (.inr (0, (aln x1)))) (hq : f_X13_leave x1 x2 x3 h = some q) : J κ 0 [(0, .inr (.inr 155)), (1, .inr (.inr x1)), (2, .inl x2), (3, .inl x3)] [] h (none, q) := by
  delta f_X13_leave at hq
  refine J_iconst (pc := 0) X (v := 0) (by decide) dX13_leave_0 ?_
  refine J_istore (pc := 1) X (L' := [(4, .inl 0), (0, .inr (.inr 155)), (1, .inr (.inr x1)), (2, .inl x2), (3, .inl x3)]) (by decide) rfl dX13_leave_1 ?_
  refine J_iconst (pc := 3) X (v := 0) (by decide) dX13_leave_3 ?_
  refine J_istore (pc := 4) X (L' := [(5, .inl 0), (4, .inl 0), (0, .inr (.inr 155)), (1, .inr (.inr x1)), (2, .inl x2), (3, .inl x3)]) (by decide) rfl dX13_leave_4 ?_
  refine J_sub [2, 3, 4, 5, 1, 0] rfl ?_
  refine tL_X13_leave_6 X _ _ _ _ N0 _ _ _ _ lx1 ?_ hq
  · intro v9 h8 q hq
    refine J_aload_n (pc := 47) X (j := 0) (i := 0) rfl rfl dX13_leave_47 ?_
    refine J_iload (pc := 48) X (j := 1) rfl dX13_leave_48 ?_
    refine J_putI (pc := 50) X ly155 fp_13_303 dX13_leave_50 ?_
    refine J_ltH hq (fun h10 hq => ?_)
    obtain rfl := Option.some.inj hq
    exact J_vret (pc := 53) X dX13_leave_53
theorem m_X13_leave (x1 : Nat) (x2 : Int32) (x3 : Int32) (h : Hp) (q : Hp) (lx1 : lay x1 = some (.inr (0, (aln x1)))) (hq : f_X13_leave x1 x2 x3 h = some q) : ∀ l w, CT l w yX13_leave cX13_leave 6 (none) 2 [.inr (.inr 155), .inr (.inr x1), .inl x2, .inl x3] h (none, q) :=
  CT_of (L0 := [(0, .inr (.inr 155)), (1, .inr (.inr x1)), (2, .inl x2), (3, .inl x3)]) (by decide) rfl (Nat.le_of_ble_eq_true rfl) (fun κ X => tf_X13_leave X x1 x2 x3 h q lx1 hq)
theorem tf_X13_isBeginning {κ : Kx} (X : OK κ cX13_isBeginning 2 (some .boolean) "StruckWordsModel" 2) (x1 : Int32) (h : Hp) (q : (Int32 × Hp)) (hq : f_X13_isBeginning x1 h = some q) : J κ 0 [(0, .inr (.inr 155)), (1, .inl x1)] [] h (some (.inl q.1), q.2) := by
  delta f_X13_isBeginning at hq
  refine J_iload_n (pc := 0) X (j := 1) (i := 1) rfl rfl dX13_isBeginning_0 ?_
  refine J_iconst (pc := 1) X (v := 0) (by decide) dX13_isBeginning_1 ?_
  refine J_aload_n (pc := 2) X (j := 0) (i := 0) rfl rfl dX13_isBeginning_2 ?_
  refine J_getF (pc := 3) X (b := 157) ly155 fl_13_33 rfl dX13_isBeginning_3 ?_
  refine J_iconst (pc := 6) X (v := 3) (by decide) dX13_isBeginning_6 ?_
  refine J_iaload (pc := 7) X ly157 (by decide) dX13_isBeginning_7 ?_
  obtain ⟨v2, h1, hc, hq⟩ := bnd_e hq
  refine J_callS (pc := 8) (as := [.inl x1, .inl 0, .inl (h.1 157 ((3 : Int32).toNatClampNeg))]) (st := []) (st2 := [.inl v2]) (r1 := (some (.inl v2), h1)) (h2 := h1) (ky := 1) X dX13_isBeginning_8 ca_X13_isIn cz_X13_isIn ml_13_204 (by decide) (m_X13_isIn _ _ _ _ _ hc) rfl rfl (Nat.le_of_ble_eq_true rfl) rfl rfl ?_
  obtain ⟨g3, hq⟩ := gd hq
  obtain rfl := Option.some.inj hq
  exact J_zret (pc := 11) X g3 dX13_isBeginning_11
theorem m_X13_isBeginning (x1 : Int32) (h : Hp) (q : (Int32 × Hp)) (hq : f_X13_isBeginning x1 h = some q) : ∀ l w, CT l w yX13_isBeginning cX13_isBeginning 2 (some .boolean) 2 [.inr (.inr 155), .inl x1] h (some (.inl q.1), q.2) :=
  CT_of (L0 := [(0, .inr (.inr 155)), (1, .inl x1)]) (by decide) rfl (Nat.le_of_ble_eq_true rfl) (fun κ X => tf_X13_isBeginning X x1 h q  hq)
theorem tF_X13_leaveText_22 {κ : Kx} (X : OK κ cX13_leaveText 3 (none) "StruckWordsModel" 3) (x1 : Int32) (k56 : Hp → Option Hp) (self : Int32 → Hp → Option Hp) (x2 : Int32) (h : Hp) (q : Hp) (hk56 : ∀ (h : Hp) (q : Hp), k56 h = some q → J κ 56 [(0, .inr (.inr 155)), (1, .inl x1)] [] h (none, q)) (hself : ∀ (x2 : Int32) (h : Hp) (q : Hp), self x2 h = some q → J κ 22 [(0, .inr (.inr 155)), (1, .inl x1), (2, .inl x2)] [] h (none, q)) (hq : F_X13_leaveText_22 x1 k56 self x2 h = some q) : J κ 22 [(0, .inr (.inr 155)), (1, .inl x1), (2, .inl x2)] [] h (none, q) := by
  delta F_X13_leaveText_22 at hq
  refine J_iload_n (pc := 22) X (j := 2) (i := 2) rfl rfl dX13_leaveText_22 ?_
  refine J_aload_n (pc := 23) X (j := 0) (i := 0) rfl rfl dX13_leaveText_23 ?_
  refine J_getF (pc := 24) X (b := 157) ly155 fl_13_33 rfl dX13_leaveText_24 ?_
  refine J_sipush (pc := 27) X (v := 437) (by decide) dX13_leaveText_27 ?_
  refine J_iaload (pc := 30) X ly157 (by decide) dX13_leaveText_30 ?_
  refine J_icmp_ge (pc := 31) (tgt := 56) X dX13_leaveText_31 rfl (fun c3 => ?_) (fun c3 => ?_)
  · have hq := ite_t hq c3
    refine J_sub [0, 1] rfl ?_
    exact hk56 _ _ hq
  · have hq := ite_f hq c3
    refine J_aload_n (pc := 34) X (j := 0) (i := 0) rfl rfl dX13_leaveText_34 ?_
    refine J_getF (pc := 35) X (b := 161) ly155 fl_13_47 rfl dX13_leaveText_35 ?_
    refine J_iload_n (pc := 38) X (j := 2) (i := 2) rfl rfl dX13_leaveText_38 ?_
    refine J_aload_n (pc := 39) X (j := 0) (i := 0) rfl rfl dX13_leaveText_39 ?_
    refine J_getF (pc := 40) X (b := 157) ly155 fl_13_33 rfl dX13_leaveText_40 ?_
    refine J_sipush (pc := 43) X (v := 438) (by decide) dX13_leaveText_43 ?_
    refine J_iload_n (pc := 46) X (j := 2) (i := 2) rfl rfl dX13_leaveText_46 ?_
    refine J_iadd (pc := 47) X dX13_leaveText_47 ?_
    obtain ⟨g4, hq⟩ := gd hq
    refine J_iaload (pc := 48) X ly157 g4 dX13_leaveText_48 ?_
    obtain ⟨g5, hq⟩ := gd hq
    refine J_iastore (pc := 49) X ly161 g5 dX13_leaveText_49 ?_
    refine J_ltH hq (fun h6 hq => ?_)
    refine J_iinc (pc := 50) X (j := 2) (v := 1) (L' := [(2, .inl (x2 + 1)), (0, .inr (.inr 155)), (1, .inl x1)]) rfl (by decide) (by decide) rfl dX13_leaveText_50 ?_
    refine J_goto (pc := 53) X (tgt := 22) dX13_leaveText_53 rfl ?_
    refine J_sub [1, 2, 0] rfl ?_
    exact hself _ _ _ hq
theorem tL_X13_leaveText_22 {κ : Kx} (X : OK κ cX13_leaveText 3 (none) "StruckWordsModel" 3) (x1 : Int32) (k56 : Hp → Option Hp) (N : Nat) (x2 : Int32) (h : Hp) (q : Hp) (hk56 : ∀ (h : Hp) (q : Hp), k56 h = some q → J κ 56 [(0, .inr (.inr 155)), (1, .inl x1)] [] h (none, q)) (hq : itr2 (F_X13_leaveText_22 x1 k56) N x2 h = some q) : J κ 22 [(0, .inr (.inr 155)), (1, .inl x1), (2, .inl x2)] [] h (none, q) :=
  itr2_ind (fun self hs x2 h q hq => tF_X13_leaveText_22 X x1 k56 self x2 h q hk56 hs hq) N x2 h q hq
theorem tf_X13_leaveText {κ : Kx} (X : OK κ cX13_leaveText 3 (none) "StruckWordsModel" 3) (x1 : Int32) (h : Hp) (q : Hp) (hq : f_X13_leaveText x1 h = some q) : J κ 0 [(0, .inr (.inr 155)), (1, .inl x1)] [] h (none, q) := by
  delta f_X13_leaveText at hq
  refine J_aload_n (pc := 0) X (j := 0) (i := 0) rfl rfl dX13_leaveText_0 ?_
  refine J_aload_n (pc := 1) X (j := 0) (i := 0) rfl rfl dX13_leaveText_1 ?_
  refine J_getF (pc := 2) X (b := 157) ly155 fl_13_33 rfl dX13_leaveText_2 ?_
  refine J_iconst (pc := 5) X (v := 3) (by decide) dX13_leaveText_5 ?_
  refine J_iaload (pc := 6) X ly157 (by decide) dX13_leaveText_6 ?_
  refine J_putI (pc := 7) X ly155 fp_13_294 dX13_leaveText_7 ?_
  refine J_ltH hq (fun h1 hq => ?_)
  refine J_aload_n (pc := 10) X (j := 0) (i := 0) rfl rfl dX13_leaveText_10 ?_
  refine J_aload_n (pc := 11) X (j := 0) (i := 0) rfl rfl dX13_leaveText_11 ?_
  refine J_getF (pc := 12) X (b := 157) ly155 fl_13_33 rfl dX13_leaveText_12 ?_
  refine J_iconst (pc := 15) X (v := 4) (by decide) dX13_leaveText_15 ?_
  refine J_iaload (pc := 16) X ly157 (by decide) dX13_leaveText_16 ?_
  refine J_putI (pc := 17) X ly155 fp_13_297 dX13_leaveText_17 ?_
  refine J_ltH hq (fun h2 hq => ?_)
  refine J_iconst (pc := 20) X (v := 0) (by decide) dX13_leaveText_20 ?_
  refine J_istore_n (pc := 21) X (L' := [(2, .inl 0), (0, .inr (.inr 155)), (1, .inl x1)]) (i := 2) rfl (by decide) rfl dX13_leaveText_21 ?_
  refine J_sub [1, 2, 0] rfl ?_
  refine tL_X13_leaveText_22 X _ _ N0 _ _ _ ?_ hq
  · intro h7 q hq
    refine J_aload_n (pc := 56) X (j := 0) (i := 0) rfl rfl dX13_leaveText_56 ?_
    refine J_aload_n (pc := 57) X (j := 0) (i := 0) rfl rfl dX13_leaveText_57 ?_
    refine J_getF (pc := 58) X (b := 161) ly155 fl_13_47 rfl dX13_leaveText_58 ?_
    refine J_aload_n (pc := 61) X (j := 0) (i := 0) rfl rfl dX13_leaveText_61 ?_
    refine J_getF (pc := 62) X (b := 157) ly155 fl_13_33 rfl dX13_leaveText_62 ?_
    refine J_sipush (pc := 65) X (v := 437) (by decide) dX13_leaveText_65 ?_
    refine J_iaload (pc := 68) X ly157 (by decide) dX13_leaveText_68 ?_
    refine J_iload_n (pc := 69) X (j := 1) (i := 1) rfl rfl dX13_leaveText_69 ?_
    obtain ⟨h8, hc, hq⟩ := bnv_e hq
    refine J_callV (pc := 70) (as := [.inr (.inr 161), .inl (h7.1 157 ((437 : Int32).toNatClampNeg)), .inl x1]) (st := []) (st2 := []) (r1 := (none, h8)) (h2 := h8) (ky := 2) X dX13_leaveText_70 ca_X13_leave ci_X13_leave cs_X13_leave ml_13_306 (by decide) ly155 rfl rfl (m_X13_leave _ _ _ _ _ (aln_of ly161) hc) rfl rfl (Nat.le_of_ble_eq_true rfl) rfl rfl ?_
    obtain rfl := Option.some.inj hq
    exact J_vret (pc := 73) X dX13_leaveText_73
theorem m_X13_leaveText (x1 : Int32) (h : Hp) (q : Hp) (hq : f_X13_leaveText x1 h = some q) : ∀ l w, CT l w yX13_leaveText cX13_leaveText 3 (none) 3 [.inr (.inr 155), .inl x1] h (none, q) :=
  CT_of (L0 := [(0, .inr (.inr 155)), (1, .inl x1)]) (by decide) rfl (Nat.le_of_ble_eq_true rfl) (fun κ X => tf_X13_leaveText X x1 h q  hq)
theorem tf_X13_left {κ : Kx} (X : OK κ cX13_left 2 (some .int) "StruckWordsModel" 4) (x1 : Int32) (h : Hp) (q : (Int32 × Hp)) (hq : f_X13_left x1 h = some q) : J κ 0 [(0, .inr (.inr 155)), (1, .inl x1)] [] h (some (.inl q.1), q.2) := by
  delta f_X13_left at hq
  refine J_aload_n (pc := 0) X (j := 0) (i := 0) rfl rfl dX13_left_0 ?_
  refine J_iconst (pc := 1) X (v := 0) (by decide) dX13_left_1 ?_
  refine J_putI (pc := 2) X ly155 fp_13_1 dX13_left_2 ?_
  refine J_ltH hq (fun h1 hq => ?_)
  refine J_aload_n (pc := 5) X (j := 0) (i := 0) rfl rfl dX13_left_5 ?_
  refine J_iload_n (pc := 6) X (j := 1) (i := 1) rfl rfl dX13_left_6 ?_
  obtain ⟨v3, h2, hc, hq⟩ := bnd_e hq
  refine J_callV (pc := 7) (as := [.inl x1]) (st := []) (st2 := [.inl v3]) (r1 := (some (.inl v3), h2)) (h2 := h2) (ky := 2) X dX13_left_7 ca_X13_isBeginning ci_X13_isBeginning cs_X13_isBeginning ml_13_310 (by decide) ly155 rfl rfl (m_X13_isBeginning _ _ _ hc) rfl rfl (Nat.le_of_ble_eq_true rfl) rfl rfl ?_
  refine J_if_ne (pc := 10) (tgt := 15) X dX13_left_10 rfl (fun c4 => ?_) (fun c4 => ?_)
  · have hq := ite_f hq c4
    refine J_aload_n (pc := 15) X (j := 0) (i := 0) rfl rfl dX13_left_15 ?_
    refine J_iload_n (pc := 16) X (j := 1) (i := 1) rfl rfl dX13_left_16 ?_
    obtain ⟨h5, hc, hq⟩ := bnv_e hq
    refine J_callV (pc := 17) (as := [.inl x1]) (st := []) (st2 := []) (r1 := (none, h5)) (h2 := h5) (ky := 3) X dX13_left_17 ca_X13_leaveText ci_X13_leaveText cs_X13_leaveText ml_13_313 (by decide) ly155 rfl rfl (m_X13_leaveText _ _ _ hc) rfl rfl (Nat.le_of_ble_eq_true rfl) rfl rfl ?_
    refine J_aload_n (pc := 20) X (j := 0) (i := 0) rfl rfl dX13_left_20 ?_
    refine J_getI (pc := 21) X ly155 fl_13_303 dX13_left_21 ?_
    obtain rfl := Option.some.inj hq
    exact J_iret (pc := 24) X dX13_left_24
  · have hq := ite_t hq c4
    refine J_iconst (pc := 13) X (v := (-1)) (by decide) dX13_left_13 ?_
    obtain rfl := Option.some.inj hq
    exact J_iret (pc := 14) X dX13_left_14
theorem m_X13_left (x1 : Int32) (h : Hp) (q : (Int32 × Hp)) (hq : f_X13_left x1 h = some q) : ∀ l w, CT l w yX13_left cX13_left 2 (some .int) 4 [.inr (.inr 155), .inl x1] h (some (.inl q.1), q.2) :=
  CT_of (L0 := [(0, .inr (.inr 155)), (1, .inl x1)]) (by decide) rfl (Nat.le_of_ble_eq_true rfl) (fun κ X => tf_X13_left X x1 h q  hq)
theorem tf_X13_leftAt {κ : Kx} (X : OK κ cX13_leftAt 3 (some .int) "StruckWordsModel" 4) (x1 : Int32) (x2 : Int32) (h : Hp) (q : (Int32 × Hp)) (hq : f_X13_leftAt x1 x2 h = some q) : J κ 0 [(0, .inr (.inr 155)), (1, .inl x1), (2, .inl x2)] [] h (some (.inl q.1), q.2) := by
  delta f_X13_leftAt at hq
  refine J_aload_n (pc := 0) X (j := 0) (i := 0) rfl rfl dX13_leftAt_0 ?_
  refine J_iconst (pc := 1) X (v := 0) (by decide) dX13_leftAt_1 ?_
  refine J_putI (pc := 2) X ly155 fp_13_1 dX13_leftAt_2 ?_
  refine J_ltH hq (fun h1 hq => ?_)
  refine J_aload_n (pc := 5) X (j := 0) (i := 0) rfl rfl dX13_leftAt_5 ?_
  refine J_iload_n (pc := 6) X (j := 1) (i := 1) rfl rfl dX13_leftAt_6 ?_
  obtain ⟨v3, h2, hc, hq⟩ := bnd_e hq
  refine J_callV (pc := 7) (as := [.inl x1]) (st := []) (st2 := [.inl v3]) (r1 := (some (.inl v3), h2)) (h2 := h2) (ky := 2) X dX13_leftAt_7 ca_X13_isBeginning ci_X13_isBeginning cs_X13_isBeginning ml_13_310 (by decide) ly155 rfl rfl (m_X13_isBeginning _ _ _ hc) rfl rfl (Nat.le_of_ble_eq_true rfl) rfl rfl ?_
  refine J_if_ne (pc := 10) (tgt := 15) X dX13_leftAt_10 rfl (fun c4 => ?_) (fun c4 => ?_)
  · have hq := ite_f hq c4
    refine J_aload_n (pc := 15) X (j := 0) (i := 0) rfl rfl dX13_leftAt_15 ?_
    refine J_iload_n (pc := 16) X (j := 1) (i := 1) rfl rfl dX13_leftAt_16 ?_
    obtain ⟨h5, hc, hq⟩ := bnv_e hq
    refine J_callV (pc := 17) (as := [.inl x1]) (st := []) (st2 := []) (r1 := (none, h5)) (h2 := h5) (ky := 3) X dX13_leftAt_17 ca_X13_leaveText ci_X13_leaveText cs_X13_leaveText ml_13_313 (by decide) ly155 rfl rfl (m_X13_leaveText _ _ _ hc) rfl rfl (Nat.le_of_ble_eq_true rfl) rfl rfl ?_
    refine J_iload_n (pc := 20) X (j := 2) (i := 2) rfl rfl dX13_leftAt_20 ?_
    refine J_iconst (pc := 21) X (v := 0) (by decide) dX13_leftAt_21 ?_
    refine J_aload_n (pc := 22) X (j := 0) (i := 0) rfl rfl dX13_leftAt_22 ?_
    refine J_getI (pc := 23) X ly155 fl_13_303 dX13_leftAt_23 ?_
    refine J_iconst (pc := 26) X (v := 1) (by decide) dX13_leftAt_26 ?_
    refine J_isub (pc := 27) X dX13_leftAt_27 ?_
    obtain ⟨v7, h6, hc, hq⟩ := bnd_e hq
    refine J_callS (pc := 28) (as := [.inl x2, .inl 0, .inl ((h5.1 155 27) - 1)]) (st := []) (st2 := [.inl v7]) (r1 := (some (.inl v7), h6)) (h2 := h6) (ky := 1) X dX13_leftAt_28 ca_X13_isIn cz_X13_isIn ml_13_204 (by decide) (m_X13_isIn _ _ _ _ _ hc) rfl rfl (Nat.le_of_ble_eq_true rfl) rfl rfl ?_
    refine J_if_eq (pc := 31) (tgt := 43) X dX13_leftAt_31 rfl (fun c8 => ?_) (fun c8 => ?_)
    · have hq := ite_t hq c8
      refine J_iconst (pc := 43) X (v := (-1)) (by decide) dX13_leftAt_43 ?_
      obtain rfl := Option.some.inj hq
      exact J_iret (pc := 44) X dX13_leftAt_44
    · have hq := ite_f hq c8
      refine J_aload_n (pc := 34) X (j := 0) (i := 0) rfl rfl dX13_leftAt_34 ?_
      refine J_getF (pc := 35) X (b := 162) ly155 fl_13_50 rfl dX13_leftAt_35 ?_
      refine J_iload_n (pc := 38) X (j := 2) (i := 2) rfl rfl dX13_leftAt_38 ?_
      obtain ⟨g9, hq⟩ := gd hq
      refine J_iaload (pc := 39) X ly162 g9 dX13_leftAt_39 ?_
      refine J_goto (pc := 40) X (tgt := 44) dX13_leftAt_40 rfl ?_
      obtain rfl := Option.some.inj hq
      exact J_iret (pc := 44) X dX13_leftAt_44
  · have hq := ite_t hq c4
    refine J_iconst (pc := 13) X (v := (-1)) (by decide) dX13_leftAt_13 ?_
    obtain rfl := Option.some.inj hq
    exact J_iret (pc := 14) X dX13_leftAt_14
theorem m_X13_leftAt (x1 : Int32) (x2 : Int32) (h : Hp) (q : (Int32 × Hp)) (hq : f_X13_leftAt x1 x2 h = some q) : ∀ l w, CT l w yX13_leftAt cX13_leftAt 3 (some .int) 4 [.inr (.inr 155), .inl x1, .inl x2] h (some (.inl q.1), q.2) :=
  CT_of (L0 := [(0, .inr (.inr 155)), (1, .inl x1), (2, .inl x2)]) (by decide) rfl (Nat.le_of_ble_eq_true rfl) (fun κ X => tf_X13_leftAt X x1 x2 h q  hq)
theorem tF_X13_settle_35 {κ : Kx} (X : OK κ cX13_settle 5 (none) "StruckWordsModel" 2) (k62 : Hp → Option Hp) (self : Int32 → Hp → Option Hp) (x1 : Int32) (h : Hp) (q : Hp) (hk62 : ∀ (h : Hp) (q : Hp), k62 h = some q → J κ 62 [(0, .inr (.inr 155))] [] h (none, q)) (hself : ∀ (x1 : Int32) (h : Hp) (q : Hp), self x1 h = some q → J κ 35 [(0, .inr (.inr 155)), (1, .inl x1)] [] h (none, q)) (hq : F_X13_settle_35 k62 self x1 h = some q) : J κ 35 [(0, .inr (.inr 155)), (1, .inl x1)] [] h (none, q) := by
  delta F_X13_settle_35 at hq
  refine J_iload_n (pc := 35) X (j := 1) (i := 1) rfl rfl dX13_settle_35 ?_
  refine J_bipush (pc := 36) X (v := 25) (by decide) dX13_settle_36 ?_
  refine J_icmp_ge (pc := 38) (tgt := 62) X dX13_settle_38 rfl (fun c5 => ?_) (fun c5 => ?_)
  · have hq := ite_t hq c5
    refine J_sub [0] rfl ?_
    exact hk62 _ _ hq
  · have hq := ite_f hq c5
    refine J_aload_n (pc := 41) X (j := 0) (i := 0) rfl rfl dX13_settle_41 ?_
    refine J_getF (pc := 42) X (b := 166) ly155 fl_13_62 rfl dX13_settle_42 ?_
    refine J_iload_n (pc := 45) X (j := 1) (i := 1) rfl rfl dX13_settle_45 ?_
    refine J_aload_n (pc := 46) X (j := 0) (i := 0) rfl rfl dX13_settle_46 ?_
    refine J_getF (pc := 47) X (b := 157) ly155 fl_13_33 rfl dX13_settle_47 ?_
    refine J_bipush (pc := 50) X (v := 15) (by decide) dX13_settle_50 ?_
    refine J_iload_n (pc := 52) X (j := 1) (i := 1) rfl rfl dX13_settle_52 ?_
    refine J_iadd (pc := 53) X dX13_settle_53 ?_
    obtain ⟨g6, hq⟩ := gd hq
    refine J_iaload (pc := 54) X ly157 g6 dX13_settle_54 ?_
    obtain ⟨g7, hq⟩ := gd hq
    refine J_iastore (pc := 55) X ly166 g7 dX13_settle_55 ?_
    refine J_ltH hq (fun h8 hq => ?_)
    refine J_iinc (pc := 56) X (j := 1) (v := 1) (L' := [(1, .inl (x1 + 1)), (0, .inr (.inr 155))]) rfl (by decide) (by decide) rfl dX13_settle_56 ?_
    refine J_goto (pc := 59) X (tgt := 35) dX13_settle_59 rfl ?_
    refine J_sub [1, 0] rfl ?_
    exact hself _ _ _ hq
theorem tL_X13_settle_35 {κ : Kx} (X : OK κ cX13_settle 5 (none) "StruckWordsModel" 2) (k62 : Hp → Option Hp) (N : Nat) (x1 : Int32) (h : Hp) (q : Hp) (hk62 : ∀ (h : Hp) (q : Hp), k62 h = some q → J κ 62 [(0, .inr (.inr 155))] [] h (none, q)) (hq : itr2 (F_X13_settle_35 k62) N x1 h = some q) : J κ 35 [(0, .inr (.inr 155)), (1, .inl x1)] [] h (none, q) :=
  itr2_ind (fun self hs x1 h q hq => tF_X13_settle_35 X k62 self x1 h q hk62 hs hq) N x1 h q hq
theorem tF_X13_settle_99 {κ : Kx} (X : OK κ cX13_settle 5 (none) "StruckWordsModel" 2) (x1 : Int32) (x2 : Int32) (k141 : Int32 → Hp → Option Hp) (self : Int32 → Int32 → Hp → Option Hp) (x3 : Int32) (x4 : Int32) (h : Hp) (q : Hp) (hk141 : ∀ (x3 : Int32) (h : Hp) (q : Hp), k141 x3 h = some q → J κ 141 [(0, .inr (.inr 155)), (1, .inl x1), (2, .inl x2), (3, .inl x3)] [] h (none, q)) (hself : ∀ (x3 : Int32) (x4 : Int32) (h : Hp) (q : Hp), self x3 x4 h = some q → J κ 99 [(0, .inr (.inr 155)), (1, .inl x1), (2, .inl x2), (3, .inl x3), (4, .inl x4)] [] h (none, q)) (hq : F_X13_settle_99 x1 x2 k141 self x3 x4 h = some q) : J κ 99 [(0, .inr (.inr 155)), (1, .inl x1), (2, .inl x2), (3, .inl x3), (4, .inl x4)] [] h (none, q) := by
  delta F_X13_settle_99 at hq
  refine J_iload (pc := 99) X (j := 4) rfl dX13_settle_99 ?_
  refine J_bipush (pc := 101) X (v := 8) (by decide) dX13_settle_101 ?_
  refine J_icmp_ge (pc := 103) (tgt := 141) X dX13_settle_103 rfl (fun c15 => ?_) (fun c15 => ?_)
  · have hq := ite_t hq c15
    refine J_sub [0, 1, 2, 3] rfl ?_
    exact hk141 _ _ _ hq
  · have hq := ite_f hq c15
    refine J_iload_n (pc := 106) X (j := 2) (i := 2) rfl rfl dX13_settle_106 ?_
    refine J_iload (pc := 107) X (j := 4) rfl dX13_settle_107 ?_
    obtain ⟨v17, h16, hc, hq⟩ := bnd_e hq
    refine J_callS (pc := 109) (as := [.inl x2, .inl x4]) (st := []) (st2 := [.inl v17]) (r1 := (some (.inl v17), h16)) (h2 := h16) (ky := 1) X dX13_settle_109 ca_X13_has cz_X13_has ml_13_257 (by decide) (m_X13_has _ _ _ _ hc) rfl rfl (Nat.le_of_ble_eq_true rfl) rfl rfl ?_
    refine J_if_eq (pc := 112) (tgt := 135) X dX13_settle_112 rfl (fun c18 => ?_) (fun c18 => ?_)
    · have hq := ite_t hq c18
      refine J_iinc (pc := 135) X (j := 4) (v := 1) (L' := [(4, .inl (x4 + 1)), (0, .inr (.inr 155)), (1, .inl x1), (2, .inl x2), (3, .inl x3)]) rfl (by decide) (by decide) rfl dX13_settle_135 ?_
      refine J_goto (pc := 138) X (tgt := 99) dX13_settle_138 rfl ?_
      refine J_sub [1, 2, 3, 4, 0] rfl ?_
      exact hself _ _ _ _ hq
    · have hq := ite_f hq c18
      refine J_iload_n (pc := 115) X (j := 3) (i := 3) rfl rfl dX13_settle_115 ?_
      refine J_iconst (pc := 116) X (v := 1) (by decide) dX13_settle_116 ?_
      refine J_aload_n (pc := 117) X (j := 0) (i := 0) rfl rfl dX13_settle_117 ?_
      refine J_getF (pc := 118) X (b := 157) ly155 fl_13_33 rfl dX13_settle_118 ?_
      refine J_bipush (pc := 121) X (v := 112) (by decide) dX13_settle_121 ?_
      refine J_bipush (pc := 123) X (v := 8) (by decide) dX13_settle_123 ?_
      refine J_iload_n (pc := 125) X (j := 1) (i := 1) rfl rfl dX13_settle_125 ?_
      refine J_imul (pc := 126) X dX13_settle_126 ?_
      refine J_iadd (pc := 127) X dX13_settle_127 ?_
      refine J_iload (pc := 128) X (j := 4) rfl dX13_settle_128 ?_
      refine J_iadd (pc := 130) X dX13_settle_130 ?_
      obtain ⟨g19, hq⟩ := gd hq
      refine J_iaload (pc := 131) X ly157 g19 dX13_settle_131 ?_
      refine J_ishl (pc := 132) X dX13_settle_132 ?_
      refine J_ior (pc := 133) X dX13_settle_133 ?_
      refine J_ltI hq (fun v20 hq => ?_)
      refine J_istore_n (pc := 134) X (L' := [(3, .inl v20), (0, .inr (.inr 155)), (1, .inl x1), (2, .inl x2), (4, .inl x4)]) (i := 3) rfl (by decide) rfl dX13_settle_134 ?_
      refine J_iinc (pc := 135) X (j := 4) (v := 1) (L' := [(4, .inl (x4 + 1)), (3, .inl v20), (0, .inr (.inr 155)), (1, .inl x1), (2, .inl x2)]) rfl (by decide) (by decide) rfl dX13_settle_135 ?_
      refine J_goto (pc := 138) X (tgt := 99) dX13_settle_138 rfl ?_
      refine J_sub [2, 3, 4, 1, 0] rfl ?_
      exact hself _ _ _ _ hq
theorem tL_X13_settle_99 {κ : Kx} (X : OK κ cX13_settle 5 (none) "StruckWordsModel" 2) (x1 : Int32) (x2 : Int32) (k141 : Int32 → Hp → Option Hp) (N : Nat) (x3 : Int32) (x4 : Int32) (h : Hp) (q : Hp) (hk141 : ∀ (x3 : Int32) (h : Hp) (q : Hp), k141 x3 h = some q → J κ 141 [(0, .inr (.inr 155)), (1, .inl x1), (2, .inl x2), (3, .inl x3)] [] h (none, q)) (hq : itr3 (F_X13_settle_99 x1 x2 k141) N x3 x4 h = some q) : J κ 99 [(0, .inr (.inr 155)), (1, .inl x1), (2, .inl x2), (3, .inl x3), (4, .inl x4)] [] h (none, q) :=
  itr3_ind (fun self hs x3 x4 h q hq => tF_X13_settle_99 X x1 x2 k141 self x3 x4 h q hk141 hs hq) N x3 x4 h q hq
theorem tF_X13_settle_87 {κ : Kx} (X : OK κ cX13_settle 5 (none) "StruckWordsModel" 2) (x1 : Int32) (k160 : Hp → Option Hp) (self : Int32 → Hp → Option Hp) (x2 : Int32) (h : Hp) (q : Hp) (hk160 : ∀ (h : Hp) (q : Hp), k160 h = some q → J κ 160 [(0, .inr (.inr 155)), (1, .inl x1)] [] h (none, q)) (hself : ∀ (x2 : Int32) (h : Hp) (q : Hp), self x2 h = some q → J κ 87 [(0, .inr (.inr 155)), (1, .inl x1), (2, .inl x2)] [] h (none, q)) (hq : F_X13_settle_87 x1 k160 self x2 h = some q) : J κ 87 [(0, .inr (.inr 155)), (1, .inl x1), (2, .inl x2)] [] h (none, q) := by
  delta F_X13_settle_87 at hq
  refine J_iload_n (pc := 87) X (j := 2) (i := 2) rfl rfl dX13_settle_87 ?_
  refine J_sipush (pc := 88) X (v := 256) (by decide) dX13_settle_88 ?_
  refine J_icmp_ge (pc := 91) (tgt := 160) X dX13_settle_91 rfl (fun c14 => ?_) (fun c14 => ?_)
  · have hq := ite_t hq c14
    refine J_sub [0, 1] rfl ?_
    exact hk160 _ _ hq
  · have hq := ite_f hq c14
    refine J_iconst (pc := 94) X (v := 0) (by decide) dX13_settle_94 ?_
    refine J_istore_n (pc := 95) X (L' := [(3, .inl 0), (0, .inr (.inr 155)), (1, .inl x1), (2, .inl x2)]) (i := 3) rfl (by decide) rfl dX13_settle_95 ?_
    refine J_iconst (pc := 96) X (v := 0) (by decide) dX13_settle_96 ?_
    refine J_istore (pc := 97) X (L' := [(4, .inl 0), (3, .inl 0), (0, .inr (.inr 155)), (1, .inl x1), (2, .inl x2)]) (by decide) rfl dX13_settle_97 ?_
    refine J_sub [2, 3, 4, 1, 0] rfl ?_
    refine tL_X13_settle_99 X _ _ _ N0 _ _ _ _ ?_ hq
    · intro v22 h21 q hq
      refine J_aload_n (pc := 141) X (j := 0) (i := 0) rfl rfl dX13_settle_141 ?_
      refine J_getF (pc := 142) X (b := 164) ly155 fl_13_56 rfl dX13_settle_142 ?_
      refine J_sipush (pc := 145) X (v := 256) (by decide) dX13_settle_145 ?_
      refine J_iload_n (pc := 148) X (j := 1) (i := 1) rfl rfl dX13_settle_148 ?_
      refine J_imul (pc := 149) X dX13_settle_149 ?_
      refine J_iload_n (pc := 150) X (j := 2) (i := 2) rfl rfl dX13_settle_150 ?_
      refine J_iadd (pc := 151) X dX13_settle_151 ?_
      refine J_iload_n (pc := 152) X (j := 3) (i := 3) rfl rfl dX13_settle_152 ?_
      obtain ⟨g23, hq⟩ := gd hq
      refine J_iastore (pc := 153) X ly164 g23 dX13_settle_153 ?_
      refine J_ltH hq (fun h24 hq => ?_)
      refine J_iinc (pc := 154) X (j := 2) (v := 1) (L' := [(2, .inl (x2 + 1)), (0, .inr (.inr 155)), (1, .inl x1), (3, .inl v22)]) rfl (by decide) (by decide) rfl dX13_settle_154 ?_
      refine J_goto (pc := 157) X (tgt := 87) dX13_settle_157 rfl ?_
      refine J_sub [1, 2, 0] rfl ?_
      exact hself _ _ _ hq
theorem tL_X13_settle_87 {κ : Kx} (X : OK κ cX13_settle 5 (none) "StruckWordsModel" 2) (x1 : Int32) (k160 : Hp → Option Hp) (N : Nat) (x2 : Int32) (h : Hp) (q : Hp) (hk160 : ∀ (h : Hp) (q : Hp), k160 h = some q → J κ 160 [(0, .inr (.inr 155)), (1, .inl x1)] [] h (none, q)) (hq : itr2 (F_X13_settle_87 x1 k160) N x2 h = some q) : J κ 87 [(0, .inr (.inr 155)), (1, .inl x1), (2, .inl x2)] [] h (none, q) :=
  itr2_ind (fun self hs x2 h q hq => tF_X13_settle_87 X x1 k160 self x2 h q hk160 hs hq) N x2 h q hq
theorem tF_X13_settle_64 {κ : Kx} (X : OK κ cX13_settle 5 (none) "StruckWordsModel" 2) (k166 : Hp → Option Hp) (self : Int32 → Hp → Option Hp) (x1 : Int32) (h : Hp) (q : Hp) (hk166 : ∀ (h : Hp) (q : Hp), k166 h = some q → J κ 166 [] [] h (none, q)) (hself : ∀ (x1 : Int32) (h : Hp) (q : Hp), self x1 h = some q → J κ 64 [(0, .inr (.inr 155)), (1, .inl x1)] [] h (none, q)) (hq : F_X13_settle_64 k166 self x1 h = some q) : J κ 64 [(0, .inr (.inr 155)), (1, .inl x1)] [] h (none, q) := by
  delta F_X13_settle_64 at hq
  refine J_iload_n (pc := 64) X (j := 1) (i := 1) rfl rfl dX13_settle_64 ?_
  refine J_bipush (pc := 65) X (v := 40) (by decide) dX13_settle_65 ?_
  refine J_icmp_ge (pc := 67) (tgt := 166) X dX13_settle_67 rfl (fun c10 => ?_) (fun c10 => ?_)
  · have hq := ite_t hq c10
    refine J_sub [] rfl ?_
    exact hk166 _ _ hq
  · have hq := ite_f hq c10
    refine J_aload_n (pc := 70) X (j := 0) (i := 0) rfl rfl dX13_settle_70 ?_
    refine J_getF (pc := 71) X (b := 165) ly155 fl_13_59 rfl dX13_settle_71 ?_
    refine J_iload_n (pc := 74) X (j := 1) (i := 1) rfl rfl dX13_settle_74 ?_
    refine J_aload_n (pc := 75) X (j := 0) (i := 0) rfl rfl dX13_settle_75 ?_
    refine J_getF (pc := 76) X (b := 157) ly155 fl_13_33 rfl dX13_settle_76 ?_
    refine J_bipush (pc := 79) X (v := 72) (by decide) dX13_settle_79 ?_
    refine J_iload_n (pc := 81) X (j := 1) (i := 1) rfl rfl dX13_settle_81 ?_
    refine J_iadd (pc := 82) X dX13_settle_82 ?_
    obtain ⟨g11, hq⟩ := gd hq
    refine J_iaload (pc := 83) X ly157 g11 dX13_settle_83 ?_
    obtain ⟨g12, hq⟩ := gd hq
    refine J_iastore (pc := 84) X ly165 g12 dX13_settle_84 ?_
    refine J_ltH hq (fun h13 hq => ?_)
    refine J_iconst (pc := 85) X (v := 0) (by decide) dX13_settle_85 ?_
    refine J_istore_n (pc := 86) X (L' := [(2, .inl 0), (0, .inr (.inr 155)), (1, .inl x1)]) (i := 2) rfl (by decide) rfl dX13_settle_86 ?_
    refine J_sub [1, 2, 0] rfl ?_
    refine tL_X13_settle_87 X _ _ N0 _ _ _ ?_ hq
    · intro h25 q hq
      refine J_iinc (pc := 160) X (j := 1) (v := 1) (L' := [(1, .inl (x1 + 1)), (0, .inr (.inr 155))]) rfl (by decide) (by decide) rfl dX13_settle_160 ?_
      refine J_goto (pc := 163) X (tgt := 64) dX13_settle_163 rfl ?_
      refine J_sub [1, 0] rfl ?_
      exact hself _ _ _ hq
theorem tL_X13_settle_64 {κ : Kx} (X : OK κ cX13_settle 5 (none) "StruckWordsModel" 2) (k166 : Hp → Option Hp) (N : Nat) (x1 : Int32) (h : Hp) (q : Hp) (hk166 : ∀ (h : Hp) (q : Hp), k166 h = some q → J κ 166 [] [] h (none, q)) (hq : itr2 (F_X13_settle_64 k166) N x1 h = some q) : J κ 64 [(0, .inr (.inr 155)), (1, .inl x1)] [] h (none, q) :=
  itr2_ind (fun self hs x1 h q hq => tF_X13_settle_64 X k166 self x1 h q hk166 hs hq) N x1 h q hq
theorem tf_X13_settle {κ : Kx} (X : OK κ cX13_settle 5 (none) "StruckWordsModel" 2) (h : Hp) (q : Hp) (hq : f_X13_settle h = some q) : J κ 0 [(0, .inr (.inr 155))] [] h (none, q) := by
  delta f_X13_settle at hq
  refine J_aload_n (pc := 0) X (j := 0) (i := 0) rfl rfl dX13_settle_0 ?_
  refine J_aload_n (pc := 1) X (j := 0) (i := 0) rfl rfl dX13_settle_1 ?_
  refine J_getF (pc := 2) X (b := 157) ly155 fl_13_33 rfl dX13_settle_2 ?_
  refine J_iconst (pc := 5) X (v := 3) (by decide) dX13_settle_5 ?_
  refine J_iaload (pc := 6) X ly157 (by decide) dX13_settle_6 ?_
  refine J_putI (pc := 7) X ly155 fp_13_294 dX13_settle_7 ?_
  refine J_ltH hq (fun h1 hq => ?_)
  refine J_aload_n (pc := 10) X (j := 0) (i := 0) rfl rfl dX13_settle_10 ?_
  refine J_aload_n (pc := 11) X (j := 0) (i := 0) rfl rfl dX13_settle_11 ?_
  refine J_getF (pc := 12) X (b := 157) ly155 fl_13_33 rfl dX13_settle_12 ?_
  refine J_iconst (pc := 15) X (v := 4) (by decide) dX13_settle_15 ?_
  refine J_iaload (pc := 16) X ly157 (by decide) dX13_settle_16 ?_
  refine J_putI (pc := 17) X ly155 fp_13_297 dX13_settle_17 ?_
  refine J_ltH hq (fun h2 hq => ?_)
  refine J_aload_n (pc := 20) X (j := 0) (i := 0) rfl rfl dX13_settle_20 ?_
  refine J_getI (pc := 21) X ly155 fl_13_65 dX13_settle_21 ?_
  refine J_if_ne (pc := 24) (tgt := 28) X dX13_settle_24 rfl (fun c3 => ?_) (fun c3 => ?_)
  · have hq := ite_f hq c3
    refine J_aload_n (pc := 28) X (j := 0) (i := 0) rfl rfl dX13_settle_28 ?_
    refine J_iconst (pc := 29) X (v := 0) (by decide) dX13_settle_29 ?_
    refine J_putZ (pc := 30) X ly155 fp_13_65 (by decide) dX13_settle_30 ?_
    refine J_ltH hq (fun h4 hq => ?_)
    refine J_iconst (pc := 33) X (v := 0) (by decide) dX13_settle_33 ?_
    refine J_istore_n (pc := 34) X (L' := [(1, .inl 0), (0, .inr (.inr 155))]) (i := 1) rfl (by decide) rfl dX13_settle_34 ?_
    refine J_sub [1, 0] rfl ?_
    refine tL_X13_settle_35 X _ N0 _ _ _ ?_ hq
    · intro h9 q hq
      refine J_iconst (pc := 62) X (v := 0) (by decide) dX13_settle_62 ?_
      refine J_istore_n (pc := 63) X (L' := [(1, .inl 0), (0, .inr (.inr 155))]) (i := 1) rfl (by decide) rfl dX13_settle_63 ?_
      refine J_sub [1, 0] rfl ?_
      refine tL_X13_settle_64 X _ N0 _ _ _ ?_ hq
      · intro h26 q hq
        obtain rfl := Option.some.inj hq
        exact J_vret (pc := 166) X dX13_settle_166
  · have hq := ite_t hq c3
    obtain rfl := Option.some.inj hq
    exact J_vret (pc := 27) X dX13_settle_27
theorem m_X13_settle (h : Hp) (q : Hp) (hq : f_X13_settle  h = some q) : ∀ l w, CT l w yX13_settle cX13_settle 5 (none) 2 [.inr (.inr 155)] h (none, q) :=
  CT_of (L0 := [(0, .inr (.inr 155))]) (by decide) rfl (Nat.le_of_ble_eq_true rfl) (fun κ X => tf_X13_settle X  h q  hq)
theorem tF_X13_comes_59 {κ : Kx} (X : OK κ cX13_comes 9 (some .long) "StruckWordsModel" 1) (x1 : Int64) (x3 : Int32) (x4 : Int64) (x6 : Int32) (k117 : Int32 → Hp → Option (Int64 × Hp)) (self : Int32 → Int32 → Hp → Option (Int64 × Hp)) (x7 : Int32) (x8 : Int32) (h : Hp) (q : (Int64 × Hp)) (hk117 : ∀ (x7 : Int32) (h : Hp) (q : (Int64 × Hp)), k117 x7 h = some q → J κ 117 [(0, .inr (.inr 155)), (1, .inr (.inl x1)), (3, .inl x3), (4, .inr (.inl x4)), (6, .inl x6), (7, .inl x7)] [] h (some (.inr (.inl q.1)), q.2)) (hself : ∀ (x7 : Int32) (x8 : Int32) (h : Hp) (q : (Int64 × Hp)), self x7 x8 h = some q → J κ 59 [(0, .inr (.inr 155)), (1, .inr (.inl x1)), (3, .inl x3), (4, .inr (.inl x4)), (6, .inl x6), (7, .inl x7), (8, .inl x8)] [] h (some (.inr (.inl q.1)), q.2)) (hq : F_X13_comes_59 x1 x3 x4 x6 k117 self x7 x8 h = some q) : J κ 59 [(0, .inr (.inr 155)), (1, .inr (.inl x1)), (3, .inl x3), (4, .inr (.inl x4)), (6, .inl x6), (7, .inl x7), (8, .inl x8)] [] h (some (.inr (.inl q.1)), q.2) := by
  delta F_X13_comes_59 at hq
  refine J_iload (pc := 59) X (j := 6) rfl dX13_comes_59 ?_
  refine J_aload_n (pc := 61) X (j := 0) (i := 0) rfl rfl dX13_comes_61 ?_
  refine J_getF (pc := 62) X (b := 157) ly155 fl_13_33 rfl dX13_comes_62 ?_
  refine J_iconst (pc := 65) X (v := 0) (by decide) dX13_comes_65 ?_
  refine J_iaload (pc := 66) X ly157 (by decide) dX13_comes_66 ?_
  refine J_icmp_ge (pc := 67) (tgt := 117) X dX13_comes_67 rfl (fun c5 => ?_) (fun c5 => ?_)
  · have hq := ite_t hq c5
    refine J_sub [0, 1, 2, 3, 4, 5] rfl ?_
    exact hk117 _ _ _ hq
  · have hq := ite_f hq c5
    refine J_lload_n (pc := 70) X (j := 1) (i := 1) rfl rfl dX13_comes_70 ?_
    refine J_ldc2 (pc := 71) X cl_13_316 dX13_comes_71 ?_
    refine J_lcmp (pc := 74) X dX13_comes_74 ?_
    refine J_if_eq (pc := 75) (tgt := 117) X dX13_comes_75 rfl (fun c6 => ?_) (fun c6 => ?_)
    · have hq := ite_t hq c6
      refine J_sub [0, 1, 2, 3, 4, 5] rfl ?_
      exact hk117 _ _ _ hq
    · have hq := ite_f hq c6
      refine J_aload_n (pc := 78) X (j := 0) (i := 0) rfl rfl dX13_comes_78 ?_
      refine J_getF (pc := 79) X (b := 166) ly155 fl_13_62 rfl dX13_comes_79 ?_
      refine J_iconst (pc := 82) X (v := 5) (by decide) dX13_comes_82 ?_
      refine J_iload (pc := 83) X (j := 6) rfl dX13_comes_83 ?_
      refine J_imul (pc := 85) X dX13_comes_85 ?_
      refine J_iload (pc := 86) X (j := 4) rfl dX13_comes_86 ?_
      refine J_iadd (pc := 88) X dX13_comes_88 ?_
      obtain ⟨g7, hq⟩ := gd hq
      refine J_iaload (pc := 89) X ly166 g7 dX13_comes_89 ?_
      refine J_iconst (pc := 90) X (v := 1) (by decide) dX13_comes_90 ?_
      refine J_icmp_ne (pc := 91) (tgt := 111) X dX13_comes_91 rfl (fun c8 => ?_) (fun c8 => ?_)
      · have hq := ite_f hq c8
        refine J_iinc (pc := 111) X (j := 6) (v := 1) (L' := [(8, .inl (x8 + 1)), (0, .inr (.inr 155)), (1, .inr (.inl x1)), (3, .inl x3), (4, .inr (.inl x4)), (6, .inl x6), (7, .inl x7)]) rfl (by decide) (by decide) rfl dX13_comes_111 ?_
        refine J_goto (pc := 114) X (tgt := 59) dX13_comes_114 rfl ?_
        refine J_sub [1, 2, 3, 4, 5, 6, 0] rfl ?_
        exact hself _ _ _ _ hq
      · have hq := ite_t hq c8
        refine J_iload (pc := 94) X (j := 5) rfl dX13_comes_94 ?_
        refine J_lload_n (pc := 96) X (j := 1) (i := 1) rfl rfl dX13_comes_96 ?_
        refine J_bipush (pc := 97) X (v := 8) (by decide) dX13_comes_97 ?_
        refine J_iload (pc := 99) X (j := 6) rfl dX13_comes_99 ?_
        refine J_imul (pc := 101) X dX13_comes_101 ?_
        refine J_lshr (pc := 102) X dX13_comes_102 ?_
        refine J_ldc2 (pc := 103) X cl_13_318 dX13_comes_103 ?_
        refine J_land (pc := 106) X dX13_comes_106 ?_
        refine J_l2i (pc := 107) X dX13_comes_107 ?_
        refine J_ior (pc := 108) X dX13_comes_108 ?_
        refine J_ltI hq (fun v9 hq => ?_)
        refine J_istore (pc := 109) X (L' := [(7, .inl v9), (0, .inr (.inr 155)), (1, .inr (.inl x1)), (3, .inl x3), (4, .inr (.inl x4)), (6, .inl x6), (8, .inl x8)]) (by decide) rfl dX13_comes_109 ?_
        refine J_iinc (pc := 111) X (j := 6) (v := 1) (L' := [(8, .inl (x8 + 1)), (7, .inl v9), (0, .inr (.inr 155)), (1, .inr (.inl x1)), (3, .inl x3), (4, .inr (.inl x4)), (6, .inl x6)]) rfl (by decide) (by decide) rfl dX13_comes_111 ?_
        refine J_goto (pc := 114) X (tgt := 59) dX13_comes_114 rfl ?_
        refine J_sub [2, 3, 4, 5, 6, 1, 0] rfl ?_
        exact hself _ _ _ _ hq
theorem tL_X13_comes_59 {κ : Kx} (X : OK κ cX13_comes 9 (some .long) "StruckWordsModel" 1) (x1 : Int64) (x3 : Int32) (x4 : Int64) (x6 : Int32) (k117 : Int32 → Hp → Option (Int64 × Hp)) (N : Nat) (x7 : Int32) (x8 : Int32) (h : Hp) (q : (Int64 × Hp)) (hk117 : ∀ (x7 : Int32) (h : Hp) (q : (Int64 × Hp)), k117 x7 h = some q → J κ 117 [(0, .inr (.inr 155)), (1, .inr (.inl x1)), (3, .inl x3), (4, .inr (.inl x4)), (6, .inl x6), (7, .inl x7)] [] h (some (.inr (.inl q.1)), q.2)) (hq : itr3 (F_X13_comes_59 x1 x3 x4 x6 k117) N x7 x8 h = some q) : J κ 59 [(0, .inr (.inr 155)), (1, .inr (.inl x1)), (3, .inl x3), (4, .inr (.inl x4)), (6, .inl x6), (7, .inl x7), (8, .inl x8)] [] h (some (.inr (.inl q.1)), q.2) :=
  itr3_ind (fun self hs x7 x8 h q hq => tF_X13_comes_59 X x1 x3 x4 x6 k117 self x7 x8 h q hk117 hs hq) N x7 x8 h q hq
theorem tB_X13_comes_117 {κ : Kx} (X : OK κ cX13_comes 9 (some .long) "StruckWordsModel" 1) (x1 : Int64) (x3 : Int32) (k153 : Int64 → Hp → Option (Int64 × Hp)) (self : Int64 → Int32 → Hp → Option (Int64 × Hp)) (x4 : Int64) (x6 : Int32) (x7 : Int32) (h : Hp) (q : (Int64 × Hp)) (hk153 : ∀ (x4 : Int64) (h : Hp) (q : (Int64 × Hp)), k153 x4 h = some q → J κ 153 [(4, .inr (.inl x4))] [] h (some (.inr (.inl q.1)), q.2)) (hself : ∀ (x4 : Int64) (x6 : Int32) (h : Hp) (q : (Int64 × Hp)), self x4 x6 h = some q → J κ 6 [(0, .inr (.inr 155)), (1, .inr (.inl x1)), (3, .inl x3), (4, .inr (.inl x4)), (6, .inl x6)] [] h (some (.inr (.inl q.1)), q.2)) (hq : B_X13_comes_117 x1 x3 k153 self x4 x6 x7 h = some q) : J κ 117 [(0, .inr (.inr 155)), (1, .inr (.inl x1)), (3, .inl x3), (4, .inr (.inl x4)), (6, .inl x6), (7, .inl x7)] [] h (some (.inr (.inl q.1)), q.2) := by
  delta B_X13_comes_117 at hq
  refine J_lload (pc := 117) X (j := 3) rfl dX13_comes_117 ?_
  refine J_aload_n (pc := 119) X (j := 0) (i := 0) rfl rfl dX13_comes_119 ?_
  refine J_getF (pc := 120) X (b := 164) ly155 fl_13_56 rfl dX13_comes_120 ?_
  refine J_sipush (pc := 123) X (v := 256) (by decide) dX13_comes_123 ?_
  refine J_iconst (pc := 126) X (v := 5) (by decide) dX13_comes_126 ?_
  refine J_iload_n (pc := 127) X (j := 2) (i := 3) rfl rfl dX13_comes_127 ?_
  refine J_imul (pc := 128) X dX13_comes_128 ?_
  refine J_iload (pc := 129) X (j := 4) rfl dX13_comes_129 ?_
  refine J_iadd (pc := 131) X dX13_comes_131 ?_
  refine J_imul (pc := 132) X dX13_comes_132 ?_
  refine J_iload (pc := 133) X (j := 5) rfl dX13_comes_133 ?_
  refine J_iadd (pc := 135) X dX13_comes_135 ?_
  obtain ⟨g12, hq⟩ := gd hq
  refine J_iaload (pc := 136) X ly164 g12 dX13_comes_136 ?_
  refine J_i2l (pc := 137) X dX13_comes_137 ?_
  refine J_bipush (pc := 138) X (v := 8) (by decide) dX13_comes_138 ?_
  refine J_iload (pc := 140) X (j := 4) rfl dX13_comes_140 ?_
  refine J_imul (pc := 142) X dX13_comes_142 ?_
  refine J_lshl (pc := 143) X dX13_comes_143 ?_
  refine J_lor (pc := 144) X dX13_comes_144 ?_
  refine J_ltL hq (fun v13 hq => ?_)
  refine J_lstore (pc := 145) X (L' := [(4, .inr (.inl v13)), (0, .inr (.inr 155)), (1, .inr (.inl x1)), (3, .inl x3), (6, .inl x6), (7, .inl x7)]) (by decide) rfl dX13_comes_145 ?_
  refine J_iinc (pc := 147) X (j := 4) (v := 1) (L' := [(6, .inl (x6 + 1)), (4, .inr (.inl v13)), (0, .inr (.inr 155)), (1, .inr (.inl x1)), (3, .inl x3), (7, .inl x7)]) rfl (by decide) (by decide) rfl dX13_comes_147 ?_
  refine J_goto (pc := 150) X (tgt := 6) dX13_comes_150 rfl ?_
  refine J_sub [2, 3, 4, 1, 0] rfl ?_
  exact hself _ _ _ _ hq
theorem tF_X13_comes_6 {κ : Kx} (X : OK κ cX13_comes 9 (some .long) "StruckWordsModel" 1) (x1 : Int64) (x3 : Int32) (k153 : Int64 → Hp → Option (Int64 × Hp)) (self : Int64 → Int32 → Hp → Option (Int64 × Hp)) (x4 : Int64) (x6 : Int32) (h : Hp) (q : (Int64 × Hp)) (hk153 : ∀ (x4 : Int64) (h : Hp) (q : (Int64 × Hp)), k153 x4 h = some q → J κ 153 [(4, .inr (.inl x4))] [] h (some (.inr (.inl q.1)), q.2)) (hself : ∀ (x4 : Int64) (x6 : Int32) (h : Hp) (q : (Int64 × Hp)), self x4 x6 h = some q → J κ 6 [(0, .inr (.inr 155)), (1, .inr (.inl x1)), (3, .inl x3), (4, .inr (.inl x4)), (6, .inl x6)] [] h (some (.inr (.inl q.1)), q.2)) (hq : F_X13_comes_6 x1 x3 k153 self x4 x6 h = some q) : J κ 6 [(0, .inr (.inr 155)), (1, .inr (.inl x1)), (3, .inl x3), (4, .inr (.inl x4)), (6, .inl x6)] [] h (some (.inr (.inl q.1)), q.2) := by
  delta F_X13_comes_6 at hq
  refine J_iload (pc := 6) X (j := 4) rfl dX13_comes_6 ?_
  refine J_aload_n (pc := 8) X (j := 0) (i := 0) rfl rfl dX13_comes_8 ?_
  refine J_getF (pc := 9) X (b := 157) ly155 fl_13_33 rfl dX13_comes_9 ?_
  refine J_iconst (pc := 12) X (v := 0) (by decide) dX13_comes_12 ?_
  refine J_iaload (pc := 13) X ly157 (by decide) dX13_comes_13 ?_
  refine J_icmp_ge (pc := 14) (tgt := 153) X dX13_comes_14 rfl (fun c1 => ?_) (fun c1 => ?_)
  · have hq := ite_t hq c1
    refine J_sub [3] rfl ?_
    exact hk153 _ _ _ hq
  · have hq := ite_f hq c1
    refine J_aload_n (pc := 17) X (j := 0) (i := 0) rfl rfl dX13_comes_17 ?_
    refine J_getF (pc := 18) X (b := 165) ly155 fl_13_59 rfl dX13_comes_18 ?_
    refine J_iconst (pc := 21) X (v := 5) (by decide) dX13_comes_21 ?_
    refine J_iload_n (pc := 22) X (j := 2) (i := 3) rfl rfl dX13_comes_22 ?_
    refine J_imul (pc := 23) X dX13_comes_23 ?_
    refine J_iload (pc := 24) X (j := 4) rfl dX13_comes_24 ?_
    refine J_iadd (pc := 26) X dX13_comes_26 ?_
    obtain ⟨g2, hq⟩ := gd hq
    refine J_iaload (pc := 27) X ly165 g2 dX13_comes_27 ?_
    refine J_if_ne (pc := 28) (tgt := 34) X dX13_comes_28 rfl (fun c3 => ?_) (fun c3 => ?_)
    · have hq := ite_f hq c3
      refine J_iconst (pc := 34) X (v := 0) (by decide) dX13_comes_34 ?_
      refine J_istore (pc := 35) X (L' := [(7, .inl 0), (0, .inr (.inr 155)), (1, .inr (.inl x1)), (3, .inl x3), (4, .inr (.inl x4)), (6, .inl x6)]) (by decide) rfl dX13_comes_35 ?_
      refine J_lload_n (pc := 37) X (j := 2) (i := 1) rfl rfl dX13_comes_37 ?_
      refine J_ldc2 (pc := 38) X cl_13_316 dX13_comes_38 ?_
      refine J_lcmp (pc := 41) X dX13_comes_41 ?_
      refine J_if_ne (pc := 42) (tgt := 56) X dX13_comes_42 rfl (fun c4 => ?_) (fun c4 => ?_)
      · have hq := ite_f hq c4
        refine J_iconst (pc := 56) X (v := 0) (by decide) dX13_comes_56 ?_
        refine J_istore (pc := 57) X (L' := [(8, .inl 0), (7, .inl 0), (0, .inr (.inr 155)), (1, .inr (.inl x1)), (3, .inl x3), (4, .inr (.inl x4)), (6, .inl x6)]) (by decide) rfl dX13_comes_57 ?_
        refine J_sub [2, 3, 4, 5, 6, 1, 0] rfl ?_
        refine tL_X13_comes_59 X _ _ _ _ _ N0 _ _ _ _ ?_ hq
        · intro v11 h10 q hq
          exact tB_X13_comes_117 X _ _ _ _ _ _ _ _ _ hk153 hself hq
      · have hq := ite_t hq c4
        refine J_aload_n (pc := 45) X (j := 1) (i := 0) rfl rfl dX13_comes_45 ?_
        refine J_getF (pc := 46) X (b := 157) ly155 fl_13_33 rfl dX13_comes_46 ?_
        refine J_iconst (pc := 49) X (v := 5) (by decide) dX13_comes_49 ?_
        refine J_iload (pc := 50) X (j := 5) rfl dX13_comes_50 ?_
        refine J_iadd (pc := 52) X dX13_comes_52 ?_
        obtain ⟨g14, hq⟩ := gd hq
        refine J_iaload (pc := 53) X ly157 g14 dX13_comes_53 ?_
        refine J_ltI hq (fun v15 hq => ?_)
        refine J_istore (pc := 54) X (L' := [(7, .inl v15), (0, .inr (.inr 155)), (1, .inr (.inl x1)), (3, .inl x3), (4, .inr (.inl x4)), (6, .inl x6)]) (by decide) rfl dX13_comes_54 ?_
        refine J_iconst (pc := 56) X (v := 0) (by decide) dX13_comes_56 ?_
        refine J_istore (pc := 57) X (L' := [(8, .inl 0), (7, .inl v15), (0, .inr (.inr 155)), (1, .inr (.inl x1)), (3, .inl x3), (4, .inr (.inl x4)), (6, .inl x6)]) (by decide) rfl dX13_comes_57 ?_
        refine J_sub [2, 3, 4, 5, 6, 1, 0] rfl ?_
        refine tL_X13_comes_59 X _ _ _ _ _ N0 _ _ _ _ ?_ hq
        · intro v17 h16 q hq
          exact tB_X13_comes_117 X _ _ _ _ _ _ _ _ _ hk153 hself hq
    · have hq := ite_t hq c3
      refine J_goto (pc := 31) X (tgt := 147) dX13_comes_31 rfl ?_
      refine J_iinc (pc := 147) X (j := 4) (v := 1) (L' := [(6, .inl (x6 + 1)), (0, .inr (.inr 155)), (1, .inr (.inl x1)), (3, .inl x3), (4, .inr (.inl x4))]) rfl (by decide) (by decide) rfl dX13_comes_147 ?_
      refine J_goto (pc := 150) X (tgt := 6) dX13_comes_150 rfl ?_
      refine J_sub [1, 2, 3, 4, 0] rfl ?_
      exact hself _ _ _ _ hq
theorem tL_X13_comes_6 {κ : Kx} (X : OK κ cX13_comes 9 (some .long) "StruckWordsModel" 1) (x1 : Int64) (x3 : Int32) (k153 : Int64 → Hp → Option (Int64 × Hp)) (N : Nat) (x4 : Int64) (x6 : Int32) (h : Hp) (q : (Int64 × Hp)) (hk153 : ∀ (x4 : Int64) (h : Hp) (q : (Int64 × Hp)), k153 x4 h = some q → J κ 153 [(4, .inr (.inl x4))] [] h (some (.inr (.inl q.1)), q.2)) (hq : itr3 (F_X13_comes_6 x1 x3 k153) N x4 x6 h = some q) : J κ 6 [(0, .inr (.inr 155)), (1, .inr (.inl x1)), (3, .inl x3), (4, .inr (.inl x4)), (6, .inl x6)] [] h (some (.inr (.inl q.1)), q.2) :=
  itr3_ind (fun self hs x4 x6 h q hq => tF_X13_comes_6 X x1 x3 k153 self x4 x6 h q hk153 hs hq) N x4 x6 h q hq
theorem tf_X13_comes {κ : Kx} (X : OK κ cX13_comes 9 (some .long) "StruckWordsModel" 1) (x1 : Int64) (x3 : Int32) (h : Hp) (q : (Int64 × Hp)) (hq : f_X13_comes x1 x3 h = some q) : J κ 0 [(0, .inr (.inr 155)), (1, .inr (.inl x1)), (3, .inl x3)] [] h (some (.inr (.inl q.1)), q.2) := by
  delta f_X13_comes at hq
  refine J_lconst (pc := 0) X (v := 0) (by decide) dX13_comes_0 ?_
  refine J_lstore (pc := 1) X (L' := [(4, .inr (.inl 0)), (0, .inr (.inr 155)), (1, .inr (.inl x1)), (3, .inl x3)]) (by decide) rfl dX13_comes_1 ?_
  refine J_iconst (pc := 3) X (v := 0) (by decide) dX13_comes_3 ?_
  refine J_istore (pc := 4) X (L' := [(6, .inl 0), (4, .inr (.inl 0)), (0, .inr (.inr 155)), (1, .inr (.inl x1)), (3, .inl x3)]) (by decide) rfl dX13_comes_4 ?_
  refine J_sub [2, 3, 4, 1, 0] rfl ?_
  refine tL_X13_comes_6 X _ _ _ N0 _ _ _ _ ?_ hq
  · intro v19 h18 q hq
    refine J_lload (pc := 153) X (j := 0) rfl dX13_comes_153 ?_
    obtain rfl := Option.some.inj hq
    exact J_lret (pc := 155) X dX13_comes_155
theorem m_X13_comes (x1 : Int64) (x3 : Int32) (h : Hp) (q : (Int64 × Hp)) (hq : f_X13_comes x1 x3 h = some q) : ∀ l w, CT l w yX13_comes cX13_comes 9 (some .long) 1 [.inr (.inr 155), .inr (.inl x1), .inl x3] h (some (.inr (.inl q.1)), q.2) :=
  CT_of (L0 := [(0, .inr (.inr 155)), (1, .inr (.inl x1)), (3, .inl x3)]) (by decide) rfl (Nat.le_of_ble_eq_true rfl) (fun κ X => tf_X13_comes X x1 x3 h q  hq)
theorem tF_X13_ends_5 {κ : Kx} (X : OK κ cX13_ends 5 (some .int) "StruckWordsModel" 1) (x1 : Int64) (k59 : Int32 → Hp → Option (Int32 × Hp)) (self : Int32 → Int32 → Hp → Option (Int32 × Hp)) (x3 : Int32) (x4 : Int32) (h : Hp) (q : (Int32 × Hp)) (hk59 : ∀ (x3 : Int32) (h : Hp) (q : (Int32 × Hp)), k59 x3 h = some q → J κ 59 [(3, .inl x3)] [] h (some (.inl q.1), q.2)) (hself : ∀ (x3 : Int32) (x4 : Int32) (h : Hp) (q : (Int32 × Hp)), self x3 x4 h = some q → J κ 5 [(0, .inr (.inr 155)), (1, .inr (.inl x1)), (3, .inl x3), (4, .inl x4)] [] h (some (.inl q.1), q.2)) (hq : F_X13_ends_5 x1 k59 self x3 x4 h = some q) : J κ 5 [(0, .inr (.inr 155)), (1, .inr (.inl x1)), (3, .inl x3), (4, .inl x4)] [] h (some (.inl q.1), q.2) := by
  delta F_X13_ends_5 at hq
  refine J_iload (pc := 5) X (j := 3) rfl dX13_ends_5 ?_
  refine J_aload_n (pc := 7) X (j := 0) (i := 0) rfl rfl dX13_ends_7 ?_
  refine J_getF (pc := 8) X (b := 157) ly155 fl_13_33 rfl dX13_ends_8 ?_
  refine J_iconst (pc := 11) X (v := 0) (by decide) dX13_ends_11 ?_
  refine J_iaload (pc := 12) X ly157 (by decide) dX13_ends_12 ?_
  refine J_icmp_ge (pc := 13) (tgt := 59) X dX13_ends_13 rfl (fun c1 => ?_) (fun c1 => ?_)
  · have hq := ite_t hq c1
    refine J_sub [2] rfl ?_
    exact hk59 _ _ _ hq
  · have hq := ite_f hq c1
    refine J_lload_n (pc := 16) X (j := 1) (i := 1) rfl rfl dX13_ends_16 ?_
    refine J_ldc2 (pc := 17) X cl_13_316 dX13_ends_17 ?_
    refine J_lcmp (pc := 20) X dX13_ends_20 ?_
    refine J_if_eq (pc := 21) (tgt := 59) X dX13_ends_21 rfl (fun c2 => ?_) (fun c2 => ?_)
    · have hq := ite_t hq c2
      refine J_sub [2] rfl ?_
      exact hk59 _ _ _ hq
    · have hq := ite_f hq c2
      refine J_aload_n (pc := 24) X (j := 0) (i := 0) rfl rfl dX13_ends_24 ?_
      refine J_getF (pc := 25) X (b := 157) ly155 fl_13_33 rfl dX13_ends_25 ?_
      refine J_bipush (pc := 28) X (v := 10) (by decide) dX13_ends_28 ?_
      refine J_iload (pc := 30) X (j := 3) rfl dX13_ends_30 ?_
      refine J_iadd (pc := 32) X dX13_ends_32 ?_
      obtain ⟨g3, hq⟩ := gd hq
      refine J_iaload (pc := 33) X ly157 g3 dX13_ends_33 ?_
      refine J_iconst (pc := 34) X (v := 1) (by decide) dX13_ends_34 ?_
      refine J_icmp_ne (pc := 35) (tgt := 53) X dX13_ends_35 rfl (fun c4 => ?_) (fun c4 => ?_)
      · have hq := ite_f hq c4
        refine J_iinc (pc := 53) X (j := 3) (v := 1) (L' := [(4, .inl (x4 + 1)), (0, .inr (.inr 155)), (1, .inr (.inl x1)), (3, .inl x3)]) rfl (by decide) (by decide) rfl dX13_ends_53 ?_
        refine J_goto (pc := 56) X (tgt := 5) dX13_ends_56 rfl ?_
        refine J_sub [1, 2, 3, 0] rfl ?_
        exact hself _ _ _ _ hq
      · have hq := ite_t hq c4
        refine J_iload_n (pc := 38) X (j := 2) (i := 3) rfl rfl dX13_ends_38 ?_
        refine J_lload_n (pc := 39) X (j := 1) (i := 1) rfl rfl dX13_ends_39 ?_
        refine J_bipush (pc := 40) X (v := 8) (by decide) dX13_ends_40 ?_
        refine J_iload (pc := 42) X (j := 3) rfl dX13_ends_42 ?_
        refine J_imul (pc := 44) X dX13_ends_44 ?_
        refine J_lshr (pc := 45) X dX13_ends_45 ?_
        refine J_ldc2 (pc := 46) X cl_13_318 dX13_ends_46 ?_
        refine J_land (pc := 49) X dX13_ends_49 ?_
        refine J_l2i (pc := 50) X dX13_ends_50 ?_
        refine J_ior (pc := 51) X dX13_ends_51 ?_
        refine J_ltI hq (fun v5 hq => ?_)
        refine J_istore_n (pc := 52) X (L' := [(3, .inl v5), (0, .inr (.inr 155)), (1, .inr (.inl x1)), (4, .inl x4)]) (i := 3) rfl (by decide) rfl dX13_ends_52 ?_
        refine J_iinc (pc := 53) X (j := 3) (v := 1) (L' := [(4, .inl (x4 + 1)), (3, .inl v5), (0, .inr (.inr 155)), (1, .inr (.inl x1))]) rfl (by decide) (by decide) rfl dX13_ends_53 ?_
        refine J_goto (pc := 56) X (tgt := 5) dX13_ends_56 rfl ?_
        refine J_sub [2, 3, 1, 0] rfl ?_
        exact hself _ _ _ _ hq
theorem tL_X13_ends_5 {κ : Kx} (X : OK κ cX13_ends 5 (some .int) "StruckWordsModel" 1) (x1 : Int64) (k59 : Int32 → Hp → Option (Int32 × Hp)) (N : Nat) (x3 : Int32) (x4 : Int32) (h : Hp) (q : (Int32 × Hp)) (hk59 : ∀ (x3 : Int32) (h : Hp) (q : (Int32 × Hp)), k59 x3 h = some q → J κ 59 [(3, .inl x3)] [] h (some (.inl q.1), q.2)) (hq : itr3 (F_X13_ends_5 x1 k59) N x3 x4 h = some q) : J κ 5 [(0, .inr (.inr 155)), (1, .inr (.inl x1)), (3, .inl x3), (4, .inl x4)] [] h (some (.inl q.1), q.2) :=
  itr3_ind (fun self hs x3 x4 h q hq => tF_X13_ends_5 X x1 k59 self x3 x4 h q hk59 hs hq) N x3 x4 h q hq
theorem tf_X13_ends {κ : Kx} (X : OK κ cX13_ends 5 (some .int) "StruckWordsModel" 1) (x1 : Int64) (h : Hp) (q : (Int32 × Hp)) (hq : f_X13_ends x1 h = some q) : J κ 0 [(0, .inr (.inr 155)), (1, .inr (.inl x1))] [] h (some (.inl q.1), q.2) := by
  delta f_X13_ends at hq
  refine J_iconst (pc := 0) X (v := 0) (by decide) dX13_ends_0 ?_
  refine J_istore_n (pc := 1) X (L' := [(3, .inl 0), (0, .inr (.inr 155)), (1, .inr (.inl x1))]) (i := 3) rfl (by decide) rfl dX13_ends_1 ?_
  refine J_iconst (pc := 2) X (v := 0) (by decide) dX13_ends_2 ?_
  refine J_istore (pc := 3) X (L' := [(4, .inl 0), (3, .inl 0), (0, .inr (.inr 155)), (1, .inr (.inl x1))]) (by decide) rfl dX13_ends_3 ?_
  refine J_sub [2, 3, 1, 0] rfl ?_
  refine tL_X13_ends_5 X _ _ N0 _ _ _ _ ?_ hq
  · intro v7 h6 q hq
    refine J_iload_n (pc := 59) X (j := 0) (i := 3) rfl rfl dX13_ends_59 ?_
    obtain rfl := Option.some.inj hq
    exact J_iret (pc := 60) X dX13_ends_60
theorem m_X13_ends (x1 : Int64) (h : Hp) (q : (Int32 × Hp)) (hq : f_X13_ends x1 h = some q) : ∀ l w, CT l w yX13_ends cX13_ends 5 (some .int) 1 [.inr (.inr 155), .inr (.inl x1)] h (some (.inl q.1), q.2) :=
  CT_of (L0 := [(0, .inr (.inr 155)), (1, .inr (.inl x1))]) (by decide) rfl (Nat.le_of_ble_eq_true rfl) (fun κ X => tf_X13_ends X x1 h q  hq)
theorem tF_X13_meant_7 {κ : Kx} (X : OK κ cX13_meant 6 (some .int) "StruckWordsModel" 2) (x1 : Nat) (x2 : Int32) (k29 : Int64 → Hp → Option (Int32 × Hp)) (self : Int64 → Int32 → Hp → Option (Int32 × Hp)) (x3 : Int64) (x5 : Int32) (h : Hp) (q : (Int32 × Hp)) (lx1 : lay x1 = some (.inr (0, (aln x1)))) (hk29 : ∀ (x3 : Int64) (h : Hp) (q : (Int32 × Hp)), k29 x3 h = some q → J κ 29 [(0, .inr (.inr 155)), (3, .inr (.inl x3))] [] h (some (.inl q.1), q.2)) (hself : ∀ (x3 : Int64) (x5 : Int32) (h : Hp) (q : (Int32 × Hp)), self x3 x5 h = some q → J κ 7 [(0, .inr (.inr 155)), (1, .inr (.inr x1)), (2, .inl x2), (3, .inr (.inl x3)), (5, .inl x5)] [] h (some (.inl q.1), q.2)) (hq : F_X13_meant_7 x1 x2 k29 self x3 x5 h = some q) : J κ 7 [(0, .inr (.inr 155)), (1, .inr (.inr x1)), (2, .inl x2), (3, .inr (.inl x3)), (5, .inl x5)] [] h (some (.inl q.1), q.2) := by
  delta F_X13_meant_7 at hq
  refine J_iload (pc := 7) X (j := 4) rfl dX13_meant_7 ?_
  refine J_iload_n (pc := 9) X (j := 2) (i := 2) rfl rfl dX13_meant_9 ?_
  refine J_icmp_ge (pc := 10) (tgt := 29) X dX13_meant_10 rfl (fun c1 => ?_) (fun c1 => ?_)
  · have hq := ite_t hq c1
    refine J_sub [0, 3] rfl ?_
    exact hk29 _ _ _ hq
  · have hq := ite_f hq c1
    refine J_aload_n (pc := 13) X (j := 0) (i := 0) rfl rfl dX13_meant_13 ?_
    refine J_lload_n (pc := 14) X (j := 3) (i := 3) rfl rfl dX13_meant_14 ?_
    refine J_aload_n (pc := 15) X (j := 1) (i := 1) rfl rfl dX13_meant_15 ?_
    refine J_iload (pc := 16) X (j := 4) rfl dX13_meant_16 ?_
    obtain ⟨g2, hq⟩ := gd hq
    refine J_iaload (pc := 18) X lx1 g2 dX13_meant_18 ?_
    obtain ⟨v4, h3, hc, hq⟩ := bnd_e hq
    refine J_callV (pc := 19) (as := [.inr (.inl x3), .inl (h.1 x1 (x5.toNatClampNeg))]) (st := []) (st2 := [.inr (.inl v4)]) (r1 := (some (.inr (.inl v4)), h3)) (h2 := h3) (ky := 1) X dX13_meant_19 ca_X13_comes ci_X13_comes cs_X13_comes ml_13_320 (by decide) ly155 rfl rfl (m_X13_comes _ _ _ _ hc) rfl rfl (Nat.le_of_ble_eq_true rfl) rfl rfl ?_
    refine J_lstore_n (pc := 22) X (L' := [(3, .inr (.inl v4)), (0, .inr (.inr 155)), (1, .inr (.inr x1)), (2, .inl x2), (5, .inl x5)]) (i := 3) rfl (by decide) rfl dX13_meant_22 ?_
    refine J_iinc (pc := 23) X (j := 4) (v := 1) (L' := [(5, .inl (x5 + 1)), (3, .inr (.inl v4)), (0, .inr (.inr 155)), (1, .inr (.inr x1)), (2, .inl x2)]) rfl (by decide) (by decide) rfl dX13_meant_23 ?_
    refine J_goto (pc := 26) X (tgt := 7) dX13_meant_26 rfl ?_
    refine J_sub [2, 3, 4, 1, 0] rfl ?_
    exact hself _ _ _ _ hq
theorem tL_X13_meant_7 {κ : Kx} (X : OK κ cX13_meant 6 (some .int) "StruckWordsModel" 2) (x1 : Nat) (x2 : Int32) (k29 : Int64 → Hp → Option (Int32 × Hp)) (N : Nat) (x3 : Int64) (x5 : Int32) (h : Hp) (q : (Int32 × Hp)) (lx1 : lay x1 = some (.inr (0, (aln x1)))) (hk29 : ∀ (x3 : Int64) (h : Hp) (q : (Int32 × Hp)), k29 x3 h = some q → J κ 29 [(0, .inr (.inr 155)), (3, .inr (.inl x3))] [] h (some (.inl q.1), q.2)) (hq : itr3 (F_X13_meant_7 x1 x2 k29) N x3 x5 h = some q) : J κ 7 [(0, .inr (.inr 155)), (1, .inr (.inr x1)), (2, .inl x2), (3, .inr (.inl x3)), (5, .inl x5)] [] h (some (.inl q.1), q.2) :=
  itr3_ind (fun self hs x3 x5 h q hq => tF_X13_meant_7 X x1 x2 k29 self x3 x5 h q lx1 hk29 hs hq) N x3 x5 h q hq
theorem tf_X13_meant {κ : Kx} (X : OK κ cX13_meant 6 (some .int) "StruckWordsModel" 2) (x1 : Nat) (x2 : Int32) (h : Hp) (q : (Int32 × Hp)) (lx1 : lay x1 = some (.inr (0, (aln x1)))) (hq : f_X13_meant x1 x2 h = some q) : J κ 0 [(0, .inr (.inr 155)), (1, .inr (.inr x1)), (2, .inl x2)] [] h (some (.inl q.1), q.2) := by
  delta f_X13_meant at hq
  refine J_ldc2 (pc := 0) X cl_13_316 dX13_meant_0 ?_
  refine J_lstore_n (pc := 3) X (L' := [(3, .inr (.inl (-1))), (0, .inr (.inr 155)), (1, .inr (.inr x1)), (2, .inl x2)]) (i := 3) rfl (by decide) rfl dX13_meant_3 ?_
  refine J_iconst (pc := 4) X (v := 0) (by decide) dX13_meant_4 ?_
  refine J_istore (pc := 5) X (L' := [(5, .inl 0), (3, .inr (.inl (-1))), (0, .inr (.inr 155)), (1, .inr (.inr x1)), (2, .inl x2)]) (by decide) rfl dX13_meant_5 ?_
  refine J_sub [2, 3, 4, 1, 0] rfl ?_
  refine tL_X13_meant_7 X _ _ _ N0 _ _ _ _ lx1 ?_ hq
  · intro v6 h5 q hq
    refine J_aload_n (pc := 29) X (j := 0) (i := 0) rfl rfl dX13_meant_29 ?_
    refine J_lload_n (pc := 30) X (j := 1) (i := 3) rfl rfl dX13_meant_30 ?_
    obtain ⟨v8, h7, hc, hq⟩ := bnd_e hq
    refine J_callV (pc := 31) (as := [.inr (.inl v6)]) (st := []) (st2 := [.inl v8]) (r1 := (some (.inl v8), h7)) (h2 := h7) (ky := 1) X dX13_meant_31 ca_X13_ends ci_X13_ends cs_X13_ends ml_13_324 (by decide) ly155 rfl rfl (m_X13_ends _ _ _ hc) rfl rfl (Nat.le_of_ble_eq_true rfl) rfl rfl ?_
    obtain rfl := Option.some.inj hq
    exact J_iret (pc := 34) X dX13_meant_34
theorem m_X13_meant (x1 : Nat) (x2 : Int32) (h : Hp) (q : (Int32 × Hp)) (lx1 : lay x1 = some (.inr (0, (aln x1)))) (hq : f_X13_meant x1 x2 h = some q) : ∀ l w, CT l w yX13_meant cX13_meant 6 (some .int) 2 [.inr (.inr 155), .inr (.inr x1), .inl x2] h (some (.inl q.1), q.2) :=
  CT_of (L0 := [(0, .inr (.inr 155)), (1, .inr (.inr x1)), (2, .inl x2)]) (by decide) rfl (Nat.le_of_ble_eq_true rfl) (fun κ X => tf_X13_meant X x1 x2 h q lx1 hq)
theorem tf_X13_textMeans {κ : Kx} (X : OK κ cX13_textMeans 2 (some .int) "StruckWordsModel" 4) (x1 : Int32) (h : Hp) (q : (Int32 × Hp)) (hq : f_X13_textMeans x1 h = some q) : J κ 0 [(0, .inr (.inr 155)), (1, .inl x1)] [] h (some (.inl q.1), q.2) := by
  delta f_X13_textMeans at hq
  refine J_aload_n (pc := 0) X (j := 0) (i := 0) rfl rfl dX13_textMeans_0 ?_
  obtain ⟨h1, hc, hq⟩ := bnv_e hq
  refine J_callV (pc := 1) (as := []) (st := []) (st2 := []) (r1 := (none, h1)) (h2 := h1) (ky := 2) X dX13_textMeans_1 ca_X13_settle ci_X13_settle cs_X13_settle ml_13_328 (by decide) ly155 rfl rfl (m_X13_settle _ _ hc) rfl rfl (Nat.le_of_ble_eq_true rfl) rfl rfl ?_
  refine J_aload_n (pc := 4) X (j := 0) (i := 0) rfl rfl dX13_textMeans_4 ?_
  refine J_iload_n (pc := 5) X (j := 1) (i := 1) rfl rfl dX13_textMeans_5 ?_
  obtain ⟨h2, hc, hq⟩ := bnv_e hq
  refine J_callV (pc := 6) (as := [.inl x1]) (st := []) (st2 := []) (r1 := (none, h2)) (h2 := h2) (ky := 3) X dX13_textMeans_6 ca_X13_leaveText ci_X13_leaveText cs_X13_leaveText ml_13_313 (by decide) ly155 rfl rfl (m_X13_leaveText _ _ _ hc) rfl rfl (Nat.le_of_ble_eq_true rfl) rfl rfl ?_
  refine J_aload_n (pc := 9) X (j := 0) (i := 0) rfl rfl dX13_textMeans_9 ?_
  refine J_aload_n (pc := 10) X (j := 0) (i := 0) rfl rfl dX13_textMeans_10 ?_
  refine J_getF (pc := 11) X (b := 162) ly155 fl_13_50 rfl dX13_textMeans_11 ?_
  refine J_aload_n (pc := 14) X (j := 0) (i := 0) rfl rfl dX13_textMeans_14 ?_
  refine J_getI (pc := 15) X ly155 fl_13_303 dX13_textMeans_15 ?_
  obtain ⟨v4, h3, hc, hq⟩ := bnd_e hq
  refine J_callV (pc := 18) (as := [.inr (.inr 162), .inl (h2.1 155 27)]) (st := []) (st2 := [.inl v4]) (r1 := (some (.inl v4), h3)) (h2 := h3) (ky := 2) X dX13_textMeans_18 ca_X13_meant ci_X13_meant cs_X13_meant ml_13_331 (by decide) ly155 rfl rfl (m_X13_meant _ _ _ _ (aln_of ly162) hc) rfl rfl (Nat.le_of_ble_eq_true rfl) rfl rfl ?_
  obtain rfl := Option.some.inj hq
  exact J_iret (pc := 21) X dX13_textMeans_21
theorem m_X13_textMeans (x1 : Int32) (h : Hp) (q : (Int32 × Hp)) (hq : f_X13_textMeans x1 h = some q) : ∀ l w, CT l w yX13_textMeans cX13_textMeans 2 (some .int) 4 [.inr (.inr 155), .inl x1] h (some (.inl q.1), q.2) :=
  CT_of (L0 := [(0, .inr (.inr 155)), (1, .inl x1)]) (by decide) rfl (Nat.le_of_ble_eq_true rfl) (fun κ X => tf_X13_textMeans X x1 h q  hq)
theorem tf_X13_means {κ : Kx} (X : OK κ cX13_means 2 (some .int) "StruckWordsModel" 5) (x1 : Int32) (h : Hp) (q : (Int32 × Hp)) (hq : f_X13_means x1 h = some q) : J κ 0 [(0, .inr (.inr 155)), (1, .inl x1)] [] h (some (.inl q.1), q.2) := by
  delta f_X13_means at hq
  refine J_aload_n (pc := 0) X (j := 0) (i := 0) rfl rfl dX13_means_0 ?_
  refine J_iconst (pc := 1) X (v := 0) (by decide) dX13_means_1 ?_
  refine J_putI (pc := 2) X ly155 fp_13_1 dX13_means_2 ?_
  refine J_ltH hq (fun h1 hq => ?_)
  refine J_aload_n (pc := 5) X (j := 0) (i := 0) rfl rfl dX13_means_5 ?_
  refine J_iload_n (pc := 6) X (j := 1) (i := 1) rfl rfl dX13_means_6 ?_
  obtain ⟨v3, h2, hc, hq⟩ := bnd_e hq
  refine J_callV (pc := 7) (as := [.inl x1]) (st := []) (st2 := [.inl v3]) (r1 := (some (.inl v3), h2)) (h2 := h2) (ky := 2) X dX13_means_7 ca_X13_isBeginning ci_X13_isBeginning cs_X13_isBeginning ml_13_310 (by decide) ly155 rfl rfl (m_X13_isBeginning _ _ _ hc) rfl rfl (Nat.le_of_ble_eq_true rfl) rfl rfl ?_
  refine J_if_eq (pc := 10) (tgt := 21) X dX13_means_10 rfl (fun c4 => ?_) (fun c4 => ?_)
  · have hq := ite_t hq c4
    refine J_iconst (pc := 21) X (v := (-1)) (by decide) dX13_means_21 ?_
    obtain rfl := Option.some.inj hq
    exact J_iret (pc := 22) X dX13_means_22
  · have hq := ite_f hq c4
    refine J_aload_n (pc := 13) X (j := 0) (i := 0) rfl rfl dX13_means_13 ?_
    refine J_iload_n (pc := 14) X (j := 1) (i := 1) rfl rfl dX13_means_14 ?_
    obtain ⟨v6, h5, hc, hq⟩ := bnd_e hq
    refine J_callV (pc := 15) (as := [.inl x1]) (st := []) (st2 := [.inl v6]) (r1 := (some (.inl v6), h5)) (h2 := h5) (ky := 4) X dX13_means_15 ca_X13_textMeans ci_X13_textMeans cs_X13_textMeans ml_13_335 (by decide) ly155 rfl rfl (m_X13_textMeans _ _ _ hc) rfl rfl (Nat.le_of_ble_eq_true rfl) rfl rfl ?_
    refine J_goto (pc := 18) X (tgt := 22) dX13_means_18 rfl ?_
    obtain rfl := Option.some.inj hq
    exact J_iret (pc := 22) X dX13_means_22
theorem m_X13_means (x1 : Int32) (h : Hp) (q : (Int32 × Hp)) (hq : f_X13_means x1 h = some q) : ∀ l w, CT l w yX13_means cX13_means 2 (some .int) 5 [.inr (.inr 155), .inl x1] h (some (.inl q.1), q.2) :=
  CT_of (L0 := [(0, .inr (.inr 155)), (1, .inl x1)]) (by decide) rfl (Nat.le_of_ble_eq_true rfl) (fun κ X => tf_X13_means X x1 h q  hq)
theorem tF_X13_count_46 {κ : Kx} (X : OK κ cX13_count 6 (none) "StruckWordsModel" 1) (x1 : Int32) (x2 : Int32) (k106 : Int64 → Hp → Option Hp) (self : Int64 → Int32 → Hp → Option Hp) (x3 : Int64) (x5 : Int32) (h : Hp) (q : Hp) (hk106 : ∀ (x3 : Int64) (h : Hp) (q : Hp), k106 x3 h = some q → J κ 106 [(0, .inr (.inr 155)), (1, .inl x1), (2, .inl x2), (3, .inr (.inl x3))] [] h (none, q)) (hself : ∀ (x3 : Int64) (x5 : Int32) (h : Hp) (q : Hp), self x3 x5 h = some q → J κ 46 [(0, .inr (.inr 155)), (1, .inl x1), (2, .inl x2), (3, .inr (.inl x3)), (5, .inl x5)] [] h (none, q)) (hq : F_X13_count_46 x1 x2 k106 self x3 x5 h = some q) : J κ 46 [(0, .inr (.inr 155)), (1, .inl x1), (2, .inl x2), (3, .inr (.inl x3)), (5, .inl x5)] [] h (none, q) := by
  delta F_X13_count_46 at hq
  refine J_iload (pc := 46) X (j := 4) rfl dX13_count_46 ?_
  refine J_iconst (pc := 48) X (v := 5) (by decide) dX13_count_48 ?_
  refine J_icmp_ge (pc := 49) (tgt := 106) X dX13_count_49 rfl (fun c5 => ?_) (fun c5 => ?_)
  · have hq := ite_t hq c5
    refine J_sub [0, 1, 2, 3] rfl ?_
    exact hk106 _ _ _ hq
  · have hq := ite_f hq c5
    refine J_iload_n (pc := 52) X (j := 1) (i := 1) rfl rfl dX13_count_52 ?_
    refine J_aload_n (pc := 53) X (j := 0) (i := 0) rfl rfl dX13_count_53 ?_
    refine J_getI (pc := 54) X ly155 fl_13_303 dX13_count_54 ?_
    refine J_iconst (pc := 57) X (v := 1) (by decide) dX13_count_57 ?_
    refine J_isub (pc := 58) X dX13_count_58 ?_
    refine J_icmp_ge (pc := 59) (tgt := 106) X dX13_count_59 rfl (fun c6 => ?_) (fun c6 => ?_)
    · have hq := ite_t hq c6
      refine J_sub [0, 1, 2, 3] rfl ?_
      exact hk106 _ _ _ hq
    · have hq := ite_f hq c6
      refine J_lload_n (pc := 62) X (j := 3) (i := 3) rfl rfl dX13_count_62 ?_
      refine J_aload_n (pc := 63) X (j := 0) (i := 0) rfl rfl dX13_count_63 ?_
      refine J_getF (pc := 64) X (b := 157) ly155 fl_13_33 rfl dX13_count_64 ?_
      refine J_bipush (pc := 67) X (v := 15) (by decide) dX13_count_67 ?_
      refine J_iconst (pc := 69) X (v := 5) (by decide) dX13_count_69 ?_
      refine J_iload_n (pc := 70) X (j := 2) (i := 2) rfl rfl dX13_count_70 ?_
      refine J_imul (pc := 71) X dX13_count_71 ?_
      refine J_iadd (pc := 72) X dX13_count_72 ?_
      refine J_iload (pc := 73) X (j := 4) rfl dX13_count_73 ?_
      refine J_iadd (pc := 75) X dX13_count_75 ?_
      obtain ⟨g7, hq⟩ := gd hq
      refine J_iaload (pc := 76) X ly157 g7 dX13_count_76 ?_
      refine J_iconst (pc := 77) X (v := 1) (by decide) dX13_count_77 ?_
      refine J_icmp_ne (pc := 78) (tgt := 97) X dX13_count_78 rfl (fun c8 => ?_) (fun c8 => ?_)
      · have hq := ite_f hq c8
        refine J_lconst (pc := 97) X (v := 0) (by decide) dX13_count_97 ?_
        refine J_ladd (pc := 98) X dX13_count_98 ?_
        refine J_lstore_n (pc := 99) X (L' := [(3, .inr (.inl (x3 + 0))), (0, .inr (.inr 155)), (1, .inl x1), (2, .inl x2), (5, .inl x5)]) (i := 3) rfl (by decide) rfl dX13_count_99 ?_
        refine J_iinc (pc := 100) X (j := 4) (v := 1) (L' := [(5, .inl (x5 + 1)), (3, .inr (.inl (x3 + 0))), (0, .inr (.inr 155)), (1, .inl x1), (2, .inl x2)]) rfl (by decide) (by decide) rfl dX13_count_100 ?_
        refine J_goto (pc := 103) X (tgt := 46) dX13_count_103 rfl ?_
        refine J_sub [2, 3, 4, 1, 0] rfl ?_
        exact hself _ _ _ _ hq
      · have hq := ite_t hq c8
        refine J_aload_n (pc := 81) X (j := 0) (i := 0) rfl rfl dX13_count_81 ?_
        refine J_getF (pc := 82) X (b := 167) ly155 fl_13_69 rfl dX13_count_82 ?_
        refine J_iconst (pc := 85) X (v := 5) (by decide) dX13_count_85 ?_
        refine J_iload_n (pc := 86) X (j := 1) (i := 1) rfl rfl dX13_count_86 ?_
        refine J_iconst (pc := 87) X (v := 1) (by decide) dX13_count_87 ?_
        refine J_iadd (pc := 88) X dX13_count_88 ?_
        refine J_imul (pc := 89) X dX13_count_89 ?_
        refine J_iload (pc := 90) X (j := 4) rfl dX13_count_90 ?_
        refine J_iadd (pc := 92) X dX13_count_92 ?_
        obtain ⟨g9, hq⟩ := gd hq
        refine J_laload (pc := 93) X ly167 g9 dX13_count_93 ?_
        refine J_goto (pc := 94) X (tgt := 98) dX13_count_94 rfl ?_
        refine J_ladd (pc := 98) X dX13_count_98 ?_
        refine J_ltL hq (fun v10 hq => ?_)
        refine J_lstore_n (pc := 99) X (L' := [(3, .inr (.inl v10)), (0, .inr (.inr 155)), (1, .inl x1), (2, .inl x2), (5, .inl x5)]) (i := 3) rfl (by decide) rfl dX13_count_99 ?_
        refine J_iinc (pc := 100) X (j := 4) (v := 1) (L' := [(5, .inl (x5 + 1)), (3, .inr (.inl v10)), (0, .inr (.inr 155)), (1, .inl x1), (2, .inl x2)]) rfl (by decide) (by decide) rfl dX13_count_100 ?_
        refine J_goto (pc := 103) X (tgt := 46) dX13_count_103 rfl ?_
        refine J_sub [2, 3, 4, 1, 0] rfl ?_
        exact hself _ _ _ _ hq
theorem tL_X13_count_46 {κ : Kx} (X : OK κ cX13_count 6 (none) "StruckWordsModel" 1) (x1 : Int32) (x2 : Int32) (k106 : Int64 → Hp → Option Hp) (N : Nat) (x3 : Int64) (x5 : Int32) (h : Hp) (q : Hp) (hk106 : ∀ (x3 : Int64) (h : Hp) (q : Hp), k106 x3 h = some q → J κ 106 [(0, .inr (.inr 155)), (1, .inl x1), (2, .inl x2), (3, .inr (.inl x3))] [] h (none, q)) (hq : itr3 (F_X13_count_46 x1 x2 k106) N x3 x5 h = some q) : J κ 46 [(0, .inr (.inr 155)), (1, .inl x1), (2, .inl x2), (3, .inr (.inl x3)), (5, .inl x5)] [] h (none, q) :=
  itr3_ind (fun self hs x3 x5 h q hq => tF_X13_count_46 X x1 x2 k106 self x3 x5 h q hk106 hs hq) N x3 x5 h q hq
theorem tB_X13_count_142 {κ : Kx} (X : OK κ cX13_count 6 (none) "StruckWordsModel" 1) (x1 : Int32) (k149 : Hp → Option Hp) (self : Int32 → Hp → Option Hp) (x2 : Int32) (t0 : Int64) (t1 : Int32) (h : Hp) (q : Hp) (hk149 : ∀ (h : Hp) (q : Hp), k149 h = some q → J κ 149 [(0, .inr (.inr 155)), (1, .inl x1)] [] h (none, q)) (hself : ∀ (x2 : Int32) (h : Hp) (q : Hp), self x2 h = some q → J κ 13 [(0, .inr (.inr 155)), (1, .inl x1), (2, .inl x2)] [] h (none, q)) (hq : B_X13_count_142 x1 k149 self x2 t0 t1 h = some q) : J κ 142 [(0, .inr (.inr 155)), (1, .inl x1), (2, .inl x2)] [.inr (.inl t0), .inl t1, .inr (.inr 167)] h (none, q) := by
  delta B_X13_count_142 at hq
  obtain ⟨g16, hq⟩ := gd hq
  refine J_lastore (pc := 142) X ly167 g16 dX13_count_142 ?_
  refine J_ltH hq (fun h17 hq => ?_)
  refine J_iinc (pc := 143) X (j := 2) (v := 1) (L' := [(2, .inl (x2 + 1)), (0, .inr (.inr 155)), (1, .inl x1)]) rfl (by decide) (by decide) rfl dX13_count_143 ?_
  refine J_goto (pc := 146) X (tgt := 13) dX13_count_146 rfl ?_
  refine J_sub [1, 2, 0] rfl ?_
  exact hself _ _ _ hq
theorem tB_X13_count_106 {κ : Kx} (X : OK κ cX13_count 6 (none) "StruckWordsModel" 1) (x1 : Int32) (k149 : Hp → Option Hp) (self : Int32 → Hp → Option Hp) (x2 : Int32) (x3 : Int64) (h : Hp) (q : Hp) (hk149 : ∀ (h : Hp) (q : Hp), k149 h = some q → J κ 149 [(0, .inr (.inr 155)), (1, .inl x1)] [] h (none, q)) (hself : ∀ (x2 : Int32) (h : Hp) (q : Hp), self x2 h = some q → J κ 13 [(0, .inr (.inr 155)), (1, .inl x1), (2, .inl x2)] [] h (none, q)) (hq : B_X13_count_106 x1 k149 self x2 x3 h = some q) : J κ 106 [(0, .inr (.inr 155)), (1, .inl x1), (2, .inl x2), (3, .inr (.inl x3))] [] h (none, q) := by
  delta B_X13_count_106 at hq
  refine J_aload_n (pc := 106) X (j := 0) (i := 0) rfl rfl dX13_count_106 ?_
  refine J_getF (pc := 107) X (b := 167) ly155 fl_13_69 rfl dX13_count_107 ?_
  refine J_iconst (pc := 110) X (v := 5) (by decide) dX13_count_110 ?_
  refine J_iload_n (pc := 111) X (j := 1) (i := 1) rfl rfl dX13_count_111 ?_
  refine J_imul (pc := 112) X dX13_count_112 ?_
  refine J_iload_n (pc := 113) X (j := 2) (i := 2) rfl rfl dX13_count_113 ?_
  refine J_iadd (pc := 114) X dX13_count_114 ?_
  refine J_aload_n (pc := 115) X (j := 0) (i := 0) rfl rfl dX13_count_115 ?_
  refine J_getF (pc := 116) X (b := 157) ly155 fl_13_33 rfl dX13_count_116 ?_
  refine J_bipush (pc := 119) X (v := 72) (by decide) dX13_count_119 ?_
  refine J_iconst (pc := 121) X (v := 5) (by decide) dX13_count_121 ?_
  refine J_aload_n (pc := 122) X (j := 0) (i := 0) rfl rfl dX13_count_122 ?_
  refine J_getF (pc := 123) X (b := 162) ly155 fl_13_50 rfl dX13_count_123 ?_
  refine J_iload_n (pc := 126) X (j := 1) (i := 1) rfl rfl dX13_count_126 ?_
  obtain ⟨g13, hq⟩ := gd hq
  refine J_iaload (pc := 127) X ly162 g13 dX13_count_127 ?_
  refine J_imul (pc := 128) X dX13_count_128 ?_
  refine J_iadd (pc := 129) X dX13_count_129 ?_
  refine J_iload_n (pc := 130) X (j := 2) (i := 2) rfl rfl dX13_count_130 ?_
  refine J_iadd (pc := 131) X dX13_count_131 ?_
  obtain ⟨g14, hq⟩ := gd hq
  refine J_iaload (pc := 132) X ly157 g14 dX13_count_132 ?_
  refine J_iconst (pc := 133) X (v := 1) (by decide) dX13_count_133 ?_
  refine J_icmp_ne (pc := 134) (tgt := 141) X dX13_count_134 rfl (fun c15 => ?_) (fun c15 => ?_)
  · have hq := ite_f hq c15
    refine J_lconst (pc := 141) X (v := 0) (by decide) dX13_count_141 ?_
    refine J_sub [0, 1, 2] rfl ?_
    exact tB_X13_count_142 X _ _ _ _ _ _ _ _ hk149 hself hq
  · have hq := ite_t hq c15
    refine J_lload_n (pc := 137) X (j := 3) (i := 3) rfl rfl dX13_count_137 ?_
    refine J_goto (pc := 138) X (tgt := 142) dX13_count_138 rfl ?_
    refine J_sub [0, 1, 2] rfl ?_
    exact tB_X13_count_142 X _ _ _ _ _ _ _ _ hk149 hself hq
theorem tF_X13_count_13 {κ : Kx} (X : OK κ cX13_count 6 (none) "StruckWordsModel" 1) (x1 : Int32) (k149 : Hp → Option Hp) (self : Int32 → Hp → Option Hp) (x2 : Int32) (h : Hp) (q : Hp) (hk149 : ∀ (h : Hp) (q : Hp), k149 h = some q → J κ 149 [(0, .inr (.inr 155)), (1, .inl x1)] [] h (none, q)) (hself : ∀ (x2 : Int32) (h : Hp) (q : Hp), self x2 h = some q → J κ 13 [(0, .inr (.inr 155)), (1, .inl x1), (2, .inl x2)] [] h (none, q)) (hq : F_X13_count_13 x1 k149 self x2 h = some q) : J κ 13 [(0, .inr (.inr 155)), (1, .inl x1), (2, .inl x2)] [] h (none, q) := by
  delta F_X13_count_13 at hq
  refine J_iload_n (pc := 13) X (j := 2) (i := 2) rfl rfl dX13_count_13 ?_
  refine J_iconst (pc := 14) X (v := 5) (by decide) dX13_count_14 ?_
  refine J_icmp_ge (pc := 15) (tgt := 149) X dX13_count_15 rfl (fun c3 => ?_) (fun c3 => ?_)
  · have hq := ite_t hq c3
    refine J_sub [0, 1] rfl ?_
    exact hk149 _ _ hq
  · have hq := ite_f hq c3
    refine J_iload_n (pc := 18) X (j := 1) (i := 1) rfl rfl dX13_count_18 ?_
    refine J_aload_n (pc := 19) X (j := 0) (i := 0) rfl rfl dX13_count_19 ?_
    refine J_getI (pc := 20) X ly155 fl_13_303 dX13_count_20 ?_
    refine J_iconst (pc := 23) X (v := 1) (by decide) dX13_count_23 ?_
    refine J_isub (pc := 24) X dX13_count_24 ?_
    refine J_icmp_ne (pc := 25) (tgt := 41) X dX13_count_25 rfl (fun c4 => ?_) (fun c4 => ?_)
    · have hq := ite_f hq c4
      refine J_lconst (pc := 41) X (v := 0) (by decide) dX13_count_41 ?_
      refine J_lstore_n (pc := 42) X (L' := [(3, .inr (.inl 0)), (0, .inr (.inr 155)), (1, .inl x1), (2, .inl x2)]) (i := 3) rfl (by decide) rfl dX13_count_42 ?_
      refine J_iconst (pc := 43) X (v := 0) (by decide) dX13_count_43 ?_
      refine J_istore (pc := 44) X (L' := [(5, .inl 0), (3, .inr (.inl 0)), (0, .inr (.inr 155)), (1, .inl x1), (2, .inl x2)]) (by decide) rfl dX13_count_44 ?_
      refine J_sub [2, 3, 4, 1, 0] rfl ?_
      refine tL_X13_count_46 X _ _ _ N0 _ _ _ _ ?_ hq
      · intro v12 h11 q hq
        exact tB_X13_count_106 X _ _ _ _ _ _ _ hk149 hself hq
    · have hq := ite_t hq c4
      refine J_aload_n (pc := 28) X (j := 0) (i := 0) rfl rfl dX13_count_28 ?_
      refine J_getF (pc := 29) X (b := 157) ly155 fl_13_33 rfl dX13_count_29 ?_
      refine J_bipush (pc := 32) X (v := 10) (by decide) dX13_count_32 ?_
      refine J_iload_n (pc := 34) X (j := 2) (i := 2) rfl rfl dX13_count_34 ?_
      refine J_iadd (pc := 35) X dX13_count_35 ?_
      obtain ⟨g18, hq⟩ := gd hq
      refine J_iaload (pc := 36) X ly157 g18 dX13_count_36 ?_
      refine J_i2l (pc := 37) X dX13_count_37 ?_
      refine J_goto (pc := 38) X (tgt := 42) dX13_count_38 rfl ?_
      refine J_ltL hq (fun v19 hq => ?_)
      refine J_lstore_n (pc := 42) X (L' := [(3, .inr (.inl v19)), (0, .inr (.inr 155)), (1, .inl x1), (2, .inl x2)]) (i := 3) rfl (by decide) rfl dX13_count_42 ?_
      refine J_iconst (pc := 43) X (v := 0) (by decide) dX13_count_43 ?_
      refine J_istore (pc := 44) X (L' := [(5, .inl 0), (3, .inr (.inl v19)), (0, .inr (.inr 155)), (1, .inl x1), (2, .inl x2)]) (by decide) rfl dX13_count_44 ?_
      refine J_sub [2, 3, 4, 1, 0] rfl ?_
      refine tL_X13_count_46 X _ _ _ N0 _ _ _ _ ?_ hq
      · intro v21 h20 q hq
        exact tB_X13_count_106 X _ _ _ _ _ _ _ hk149 hself hq
theorem tL_X13_count_13 {κ : Kx} (X : OK κ cX13_count 6 (none) "StruckWordsModel" 1) (x1 : Int32) (k149 : Hp → Option Hp) (N : Nat) (x2 : Int32) (h : Hp) (q : Hp) (hk149 : ∀ (h : Hp) (q : Hp), k149 h = some q → J κ 149 [(0, .inr (.inr 155)), (1, .inl x1)] [] h (none, q)) (hq : itr2 (F_X13_count_13 x1 k149) N x2 h = some q) : J κ 13 [(0, .inr (.inr 155)), (1, .inl x1), (2, .inl x2)] [] h (none, q) :=
  itr2_ind (fun self hs x2 h q hq => tF_X13_count_13 X x1 k149 self x2 h q hk149 hs hq) N x2 h q hq
theorem tF_X13_count_7 {κ : Kx} (X : OK κ cX13_count 6 (none) "StruckWordsModel" 1) (k155 : Hp → Option Hp) (self : Int32 → Hp → Option Hp) (x1 : Int32) (h : Hp) (q : Hp) (hk155 : ∀ (h : Hp) (q : Hp), k155 h = some q → J κ 155 [] [] h (none, q)) (hself : ∀ (x1 : Int32) (h : Hp) (q : Hp), self x1 h = some q → J κ 7 [(0, .inr (.inr 155)), (1, .inl x1)] [] h (none, q)) (hq : F_X13_count_7 k155 self x1 h = some q) : J κ 7 [(0, .inr (.inr 155)), (1, .inl x1)] [] h (none, q) := by
  delta F_X13_count_7 at hq
  refine J_iload_n (pc := 7) X (j := 1) (i := 1) rfl rfl dX13_count_7 ?_
  refine J_if_lt (pc := 8) (tgt := 155) X dX13_count_8 rfl (fun c2 => ?_) (fun c2 => ?_)
  · have hq := ite_t hq c2
    refine J_sub [] rfl ?_
    exact hk155 _ _ hq
  · have hq := ite_f hq c2
    refine J_iconst (pc := 11) X (v := 0) (by decide) dX13_count_11 ?_
    refine J_istore_n (pc := 12) X (L' := [(2, .inl 0), (0, .inr (.inr 155)), (1, .inl x1)]) (i := 2) rfl (by decide) rfl dX13_count_12 ?_
    refine J_sub [1, 2, 0] rfl ?_
    refine tL_X13_count_13 X _ _ N0 _ _ _ ?_ hq
    · intro h22 q hq
      refine J_iinc (pc := 149) X (j := 1) (v := (-1)) (L' := [(1, .inl (x1 + (-1))), (0, .inr (.inr 155))]) rfl (by decide) (by decide) rfl dX13_count_149 ?_
      refine J_goto (pc := 152) X (tgt := 7) dX13_count_152 rfl ?_
      refine J_sub [1, 0] rfl ?_
      exact hself _ _ _ hq
theorem tL_X13_count_7 {κ : Kx} (X : OK κ cX13_count 6 (none) "StruckWordsModel" 1) (k155 : Hp → Option Hp) (N : Nat) (x1 : Int32) (h : Hp) (q : Hp) (hk155 : ∀ (h : Hp) (q : Hp), k155 h = some q → J κ 155 [] [] h (none, q)) (hq : itr2 (F_X13_count_7 k155) N x1 h = some q) : J κ 7 [(0, .inr (.inr 155)), (1, .inl x1)] [] h (none, q) :=
  itr2_ind (fun self hs x1 h q hq => tF_X13_count_7 X k155 self x1 h q hk155 hs hq) N x1 h q hq
theorem tf_X13_count {κ : Kx} (X : OK κ cX13_count 6 (none) "StruckWordsModel" 1) (h : Hp) (q : Hp) (hq : f_X13_count h = some q) : J κ 0 [(0, .inr (.inr 155))] [] h (none, q) := by
  delta f_X13_count at hq
  refine J_aload_n (pc := 0) X (j := 0) (i := 0) rfl rfl dX13_count_0 ?_
  refine J_getI (pc := 1) X ly155 fl_13_303 dX13_count_1 ?_
  refine J_iconst (pc := 4) X (v := 1) (by decide) dX13_count_4 ?_
  refine J_isub (pc := 5) X dX13_count_5 ?_
  refine J_ltI hq (fun v1 hq => ?_)
  refine J_istore_n (pc := 6) X (L' := [(1, .inl v1), (0, .inr (.inr 155))]) (i := 1) rfl (by decide) rfl dX13_count_6 ?_
  refine J_sub [1, 0] rfl ?_
  refine tL_X13_count_7 X _ N0 _ _ _ ?_ hq
  · intro h23 q hq
    obtain rfl := Option.some.inj hq
    exact J_vret (pc := 155) X dX13_count_155
theorem m_X13_count (h : Hp) (q : Hp) (hq : f_X13_count  h = some q) : ∀ l w, CT l w yX13_count cX13_count 6 (none) 1 [.inr (.inr 155)] h (none, q) :=
  CT_of (L0 := [(0, .inr (.inr 155))]) (by decide) rfl (Nat.le_of_ble_eq_true rfl) (fun κ X => tf_X13_count X  h q  hq)
theorem tF_X13_readings_31 {κ : Kx} (X : OK κ cX13_readings 5 (some .long) "StruckWordsModel" 4) (k77 : Int64 → Hp → Option (Int64 × Hp)) (self : Int64 → Int32 → Hp → Option (Int64 × Hp)) (x2 : Int64) (x4 : Int32) (h : Hp) (q : (Int64 × Hp)) (hk77 : ∀ (x2 : Int64) (h : Hp) (q : (Int64 × Hp)), k77 x2 h = some q → J κ 77 [(2, .inr (.inl x2))] [] h (some (.inr (.inl q.1)), q.2)) (hself : ∀ (x2 : Int64) (x4 : Int32) (h : Hp) (q : (Int64 × Hp)), self x2 x4 h = some q → J κ 31 [(0, .inr (.inr 155)), (2, .inr (.inl x2)), (4, .inl x4)] [] h (some (.inr (.inl q.1)), q.2)) (hq : F_X13_readings_31 k77 self x2 x4 h = some q) : J κ 31 [(0, .inr (.inr 155)), (2, .inr (.inl x2)), (4, .inl x4)] [] h (some (.inr (.inl q.1)), q.2) := by
  delta F_X13_readings_31 at hq
  refine J_iload (pc := 31) X (j := 2) rfl dX13_readings_31 ?_
  refine J_iconst (pc := 33) X (v := 5) (by decide) dX13_readings_33 ?_
  refine J_icmp_ge (pc := 34) (tgt := 77) X dX13_readings_34 rfl (fun c7 => ?_) (fun c7 => ?_)
  · have hq := ite_t hq c7
    refine J_sub [1] rfl ?_
    exact hk77 _ _ _ hq
  · have hq := ite_f hq c7
    refine J_aload_n (pc := 37) X (j := 0) (i := 0) rfl rfl dX13_readings_37 ?_
    refine J_getI (pc := 38) X ly155 fl_13_303 dX13_readings_38 ?_
    refine J_if_le (pc := 41) (tgt := 77) X dX13_readings_41 rfl (fun c8 => ?_) (fun c8 => ?_)
    · have hq := ite_t hq c8
      refine J_sub [1] rfl ?_
      exact hk77 _ _ _ hq
    · have hq := ite_f hq c8
      refine J_lload_n (pc := 44) X (j := 1) (i := 2) rfl rfl dX13_readings_44 ?_
      refine J_aload_n (pc := 45) X (j := 0) (i := 0) rfl rfl dX13_readings_45 ?_
      refine J_getF (pc := 46) X (b := 157) ly155 fl_13_33 rfl dX13_readings_46 ?_
      refine J_iconst (pc := 49) X (v := 5) (by decide) dX13_readings_49 ?_
      refine J_iload (pc := 50) X (j := 2) rfl dX13_readings_50 ?_
      refine J_iadd (pc := 52) X dX13_readings_52 ?_
      obtain ⟨g9, hq⟩ := gd hq
      refine J_iaload (pc := 53) X ly157 g9 dX13_readings_53 ?_
      refine J_iconst (pc := 54) X (v := 1) (by decide) dX13_readings_54 ?_
      refine J_icmp_ne (pc := 55) (tgt := 68) X dX13_readings_55 rfl (fun c10 => ?_) (fun c10 => ?_)
      · have hq := ite_f hq c10
        refine J_lconst (pc := 68) X (v := 0) (by decide) dX13_readings_68 ?_
        refine J_ladd (pc := 69) X dX13_readings_69 ?_
        refine J_lstore_n (pc := 70) X (L' := [(2, .inr (.inl (x2 + 0))), (0, .inr (.inr 155)), (4, .inl x4)]) (i := 2) rfl (by decide) rfl dX13_readings_70 ?_
        refine J_iinc (pc := 71) X (j := 2) (v := 1) (L' := [(4, .inl (x4 + 1)), (2, .inr (.inl (x2 + 0))), (0, .inr (.inr 155))]) rfl (by decide) (by decide) rfl dX13_readings_71 ?_
        refine J_goto (pc := 74) X (tgt := 31) dX13_readings_74 rfl ?_
        refine J_sub [2, 1, 0] rfl ?_
        exact hself _ _ _ _ hq
      · have hq := ite_t hq c10
        refine J_aload_n (pc := 58) X (j := 0) (i := 0) rfl rfl dX13_readings_58 ?_
        refine J_getF (pc := 59) X (b := 167) ly155 fl_13_69 rfl dX13_readings_59 ?_
        refine J_iload (pc := 62) X (j := 2) rfl dX13_readings_62 ?_
        obtain ⟨g11, hq⟩ := gd hq
        refine J_laload (pc := 64) X ly167 g11 dX13_readings_64 ?_
        refine J_goto (pc := 65) X (tgt := 69) dX13_readings_65 rfl ?_
        refine J_ladd (pc := 69) X dX13_readings_69 ?_
        refine J_ltL hq (fun v12 hq => ?_)
        refine J_lstore_n (pc := 70) X (L' := [(2, .inr (.inl v12)), (0, .inr (.inr 155)), (4, .inl x4)]) (i := 2) rfl (by decide) rfl dX13_readings_70 ?_
        refine J_iinc (pc := 71) X (j := 2) (v := 1) (L' := [(4, .inl (x4 + 1)), (2, .inr (.inl v12)), (0, .inr (.inr 155))]) rfl (by decide) (by decide) rfl dX13_readings_71 ?_
        refine J_goto (pc := 74) X (tgt := 31) dX13_readings_74 rfl ?_
        refine J_sub [2, 1, 0] rfl ?_
        exact hself _ _ _ _ hq
theorem tL_X13_readings_31 {κ : Kx} (X : OK κ cX13_readings 5 (some .long) "StruckWordsModel" 4) (k77 : Int64 → Hp → Option (Int64 × Hp)) (N : Nat) (x2 : Int64) (x4 : Int32) (h : Hp) (q : (Int64 × Hp)) (hk77 : ∀ (x2 : Int64) (h : Hp) (q : (Int64 × Hp)), k77 x2 h = some q → J κ 77 [(2, .inr (.inl x2))] [] h (some (.inr (.inl q.1)), q.2)) (hq : itr3 (F_X13_readings_31 k77) N x2 x4 h = some q) : J κ 31 [(0, .inr (.inr 155)), (2, .inr (.inl x2)), (4, .inl x4)] [] h (some (.inr (.inl q.1)), q.2) :=
  itr3_ind (fun self hs x2 x4 h q hq => tF_X13_readings_31 X k77 self x2 x4 h q hk77 hs hq) N x2 x4 h q hq
theorem tf_X13_readings {κ : Kx} (X : OK κ cX13_readings 5 (some .long) "StruckWordsModel" 4) (x1 : Int32) (h : Hp) (q : (Int64 × Hp)) (hq : f_X13_readings x1 h = some q) : J κ 0 [(0, .inr (.inr 155)), (1, .inl x1)] [] h (some (.inr (.inl q.1)), q.2) := by
  delta f_X13_readings at hq
  refine J_aload_n (pc := 0) X (j := 0) (i := 0) rfl rfl dX13_readings_0 ?_
  refine J_iconst (pc := 1) X (v := 0) (by decide) dX13_readings_1 ?_
  refine J_putI (pc := 2) X ly155 fp_13_1 dX13_readings_2 ?_
  refine J_ltH hq (fun h1 hq => ?_)
  refine J_aload_n (pc := 5) X (j := 0) (i := 0) rfl rfl dX13_readings_5 ?_
  refine J_iload_n (pc := 6) X (j := 1) (i := 1) rfl rfl dX13_readings_6 ?_
  obtain ⟨v3, h2, hc, hq⟩ := bnd_e hq
  refine J_callV (pc := 7) (as := [.inl x1]) (st := []) (st2 := [.inl v3]) (r1 := (some (.inl v3), h2)) (h2 := h2) (ky := 2) X dX13_readings_7 ca_X13_isBeginning ci_X13_isBeginning cs_X13_isBeginning ml_13_310 (by decide) ly155 rfl rfl (m_X13_isBeginning _ _ _ hc) rfl rfl (Nat.le_of_ble_eq_true rfl) rfl rfl ?_
  refine J_if_ne (pc := 10) (tgt := 17) X dX13_readings_10 rfl (fun c4 => ?_) (fun c4 => ?_)
  · have hq := ite_f hq c4
    refine J_aload_n (pc := 17) X (j := 0) (i := 0) rfl rfl dX13_readings_17 ?_
    refine J_iload_n (pc := 18) X (j := 1) (i := 1) rfl rfl dX13_readings_18 ?_
    obtain ⟨h5, hc, hq⟩ := bnv_e hq
    refine J_callV (pc := 19) (as := [.inl x1]) (st := []) (st2 := []) (r1 := (none, h5)) (h2 := h5) (ky := 3) X dX13_readings_19 ca_X13_leaveText ci_X13_leaveText cs_X13_leaveText ml_13_313 (by decide) ly155 rfl rfl (m_X13_leaveText _ _ _ hc) rfl rfl (Nat.le_of_ble_eq_true rfl) rfl rfl ?_
    refine J_aload_n (pc := 22) X (j := 0) (i := 0) rfl rfl dX13_readings_22 ?_
    obtain ⟨h6, hc, hq⟩ := bnv_e hq
    refine J_callV (pc := 23) (as := []) (st := []) (st2 := []) (r1 := (none, h6)) (h2 := h6) (ky := 1) X dX13_readings_23 ca_X13_count ci_X13_count cs_X13_count ml_13_338 (by decide) ly155 rfl rfl (m_X13_count _ _ hc) rfl rfl (Nat.le_of_ble_eq_true rfl) rfl rfl ?_
    refine J_lconst (pc := 26) X (v := 0) (by decide) dX13_readings_26 ?_
    refine J_lstore_n (pc := 27) X (L' := [(2, .inr (.inl 0)), (0, .inr (.inr 155)), (1, .inl x1)]) (i := 2) rfl (by decide) rfl dX13_readings_27 ?_
    refine J_iconst (pc := 28) X (v := 0) (by decide) dX13_readings_28 ?_
    refine J_istore (pc := 29) X (L' := [(4, .inl 0), (2, .inr (.inl 0)), (0, .inr (.inr 155)), (1, .inl x1)]) (by decide) rfl dX13_readings_29 ?_
    refine J_sub [2, 1, 0] rfl ?_
    refine tL_X13_readings_31 X _ N0 _ _ _ _ ?_ hq
    · intro v14 h13 q hq
      refine J_lload_n (pc := 77) X (j := 0) (i := 2) rfl rfl dX13_readings_77 ?_
      obtain rfl := Option.some.inj hq
      exact J_lret (pc := 78) X dX13_readings_78
  · have hq := ite_t hq c4
    refine J_ldc2 (pc := 13) X cl_13_316 dX13_readings_13 ?_
    obtain rfl := Option.some.inj hq
    exact J_lret (pc := 16) X dX13_readings_16
theorem m_X13_readings (x1 : Int32) (h : Hp) (q : (Int64 × Hp)) (hq : f_X13_readings x1 h = some q) : ∀ l w, CT l w yX13_readings cX13_readings 5 (some .long) 4 [.inr (.inr 155), .inl x1] h (some (.inr (.inl q.1)), q.2) :=
  CT_of (L0 := [(0, .inr (.inr 155)), (1, .inl x1)]) (by decide) rfl (Nat.le_of_ble_eq_true rfl) (fun κ X => tf_X13_readings X x1 h q  hq)
theorem tF_X13_sortAt_57 {κ : Kx} (X : OK κ cX13_sortAt 7 (some .int) "StruckWordsModel" 4) (x2 : Int32) (x3 : Int32) (x4 : Int32) (k128 : Int32 → Hp → Option (Int32 × Hp)) (self : Int32 → Int32 → Hp → Option (Int32 × Hp)) (x5 : Int32) (x6 : Int32) (h : Hp) (q : (Int32 × Hp)) (hk128 : ∀ (x5 : Int32) (h : Hp) (q : (Int32 × Hp)), k128 x5 h = some q → J κ 128 [(0, .inr (.inr 155)), (2, .inl x2), (4, .inl x4), (5, .inl x5)] [] h (some (.inl q.1), q.2)) (hself : ∀ (x5 : Int32) (x6 : Int32) (h : Hp) (q : (Int32 × Hp)), self x5 x6 h = some q → J κ 57 [(0, .inr (.inr 155)), (2, .inl x2), (3, .inl x3), (4, .inl x4), (5, .inl x5), (6, .inl x6)] [] h (some (.inl q.1), q.2)) (hq : F_X13_sortAt_57 x2 x3 x4 k128 self x5 x6 h = some q) : J κ 57 [(0, .inr (.inr 155)), (2, .inl x2), (3, .inl x3), (4, .inl x4), (5, .inl x5), (6, .inl x6)] [] h (some (.inl q.1), q.2) := by
  delta F_X13_sortAt_57 at hq
  refine J_iload (pc := 57) X (j := 5) rfl dX13_sortAt_57 ?_
  refine J_if_lt (pc := 59) (tgt := 128) X dX13_sortAt_59 rfl (fun c11 => ?_) (fun c11 => ?_)
  · have hq := ite_t hq c11
    refine J_sub [0, 1, 3, 4] rfl ?_
    exact hk128 _ _ _ hq
  · have hq := ite_f hq c11
    refine J_aload_n (pc := 62) X (j := 0) (i := 0) rfl rfl dX13_sortAt_62 ?_
    refine J_getF (pc := 63) X (b := 167) ly155 fl_13_69 rfl dX13_sortAt_63 ?_
    refine J_iconst (pc := 66) X (v := 5) (by decide) dX13_sortAt_66 ?_
    refine J_iload (pc := 67) X (j := 3) rfl dX13_sortAt_67 ?_
    refine J_imul (pc := 69) X dX13_sortAt_69 ?_
    refine J_iload (pc := 70) X (j := 5) rfl dX13_sortAt_70 ?_
    refine J_iadd (pc := 72) X dX13_sortAt_72 ?_
    obtain ⟨g12, hq⟩ := gd hq
    refine J_laload (pc := 73) X ly167 g12 dX13_sortAt_73 ?_
    refine J_lconst (pc := 74) X (v := 0) (by decide) dX13_sortAt_74 ?_
    refine J_lcmp (pc := 75) X dX13_sortAt_75 ?_
    refine J_if_le (pc := 76) (tgt := 122) X dX13_sortAt_76 rfl (fun c13 => ?_) (fun c13 => ?_)
    · have hq := ite_t hq c13
      refine J_iinc (pc := 122) X (j := 5) (v := (-1)) (L' := [(6, .inl (x6 + (-1))), (0, .inr (.inr 155)), (2, .inl x2), (3, .inl x3), (4, .inl x4), (5, .inl x5)]) rfl (by decide) (by decide) rfl dX13_sortAt_122 ?_
      refine J_goto (pc := 125) X (tgt := 57) dX13_sortAt_125 rfl ?_
      refine J_sub [1, 2, 3, 4, 5, 0] rfl ?_
      exact hself _ _ _ _ hq
    · have hq := ite_f hq c13
      refine J_iload (pc := 79) X (j := 3) rfl dX13_sortAt_79 ?_
      refine J_if_ne (pc := 81) (tgt := 100) X dX13_sortAt_81 rfl (fun c14 => ?_) (fun c14 => ?_)
      · have hq := ite_f hq c14
        refine J_aload_n (pc := 100) X (j := 0) (i := 0) rfl rfl dX13_sortAt_100 ?_
        refine J_getF (pc := 101) X (b := 157) ly155 fl_13_33 rfl dX13_sortAt_101 ?_
        refine J_bipush (pc := 104) X (v := 15) (by decide) dX13_sortAt_104 ?_
        refine J_iconst (pc := 106) X (v := 5) (by decide) dX13_sortAt_106 ?_
        refine J_iload_n (pc := 107) X (j := 2) (i := 3) rfl rfl dX13_sortAt_107 ?_
        refine J_imul (pc := 108) X dX13_sortAt_108 ?_
        refine J_iadd (pc := 109) X dX13_sortAt_109 ?_
        refine J_iload (pc := 110) X (j := 5) rfl dX13_sortAt_110 ?_
        refine J_iadd (pc := 112) X dX13_sortAt_112 ?_
        obtain ⟨g15, hq⟩ := gd hq
        refine J_iaload (pc := 113) X ly157 g15 dX13_sortAt_113 ?_
        refine J_iconst (pc := 114) X (v := 1) (by decide) dX13_sortAt_114 ?_
        refine J_icmp_ne (pc := 115) (tgt := 122) X dX13_sortAt_115 rfl (fun c16 => ?_) (fun c16 => ?_)
        · have hq := ite_f hq c16
          refine J_iinc (pc := 122) X (j := 5) (v := (-1)) (L' := [(6, .inl (x6 + (-1))), (0, .inr (.inr 155)), (2, .inl x2), (3, .inl x3), (4, .inl x4), (5, .inl x5)]) rfl (by decide) (by decide) rfl dX13_sortAt_122 ?_
          refine J_goto (pc := 125) X (tgt := 57) dX13_sortAt_125 rfl ?_
          refine J_sub [1, 2, 3, 4, 5, 0] rfl ?_
          exact hself _ _ _ _ hq
        · have hq := ite_t hq c16
          refine J_iload (pc := 118) X (j := 5) rfl dX13_sortAt_118 ?_
          refine J_istore (pc := 120) X (L' := [(5, .inl x6), (0, .inr (.inr 155)), (2, .inl x2), (3, .inl x3), (4, .inl x4), (6, .inl x6)]) (by decide) rfl dX13_sortAt_120 ?_
          refine J_iinc (pc := 122) X (j := 5) (v := (-1)) (L' := [(6, .inl (x6 + (-1))), (5, .inl x6), (0, .inr (.inr 155)), (2, .inl x2), (3, .inl x3), (4, .inl x4)]) rfl (by decide) (by decide) rfl dX13_sortAt_122 ?_
          refine J_goto (pc := 125) X (tgt := 57) dX13_sortAt_125 rfl ?_
          refine J_sub [2, 3, 4, 5, 1, 0] rfl ?_
          exact hself _ _ _ _ hq
      · have hq := ite_t hq c14
        refine J_aload_n (pc := 84) X (j := 0) (i := 0) rfl rfl dX13_sortAt_84 ?_
        refine J_getF (pc := 85) X (b := 157) ly155 fl_13_33 rfl dX13_sortAt_85 ?_
        refine J_iconst (pc := 88) X (v := 5) (by decide) dX13_sortAt_88 ?_
        refine J_iload (pc := 89) X (j := 5) rfl dX13_sortAt_89 ?_
        refine J_iadd (pc := 91) X dX13_sortAt_91 ?_
        obtain ⟨g17, hq⟩ := gd hq
        refine J_iaload (pc := 92) X ly157 g17 dX13_sortAt_92 ?_
        refine J_iconst (pc := 93) X (v := 1) (by decide) dX13_sortAt_93 ?_
        refine J_icmp_ne (pc := 94) (tgt := 122) X dX13_sortAt_94 rfl (fun c18 => ?_) (fun c18 => ?_)
        · have hq := ite_f hq c18
          refine J_iinc (pc := 122) X (j := 5) (v := (-1)) (L' := [(6, .inl (x6 + (-1))), (0, .inr (.inr 155)), (2, .inl x2), (3, .inl x3), (4, .inl x4), (5, .inl x5)]) rfl (by decide) (by decide) rfl dX13_sortAt_122 ?_
          refine J_goto (pc := 125) X (tgt := 57) dX13_sortAt_125 rfl ?_
          refine J_sub [1, 2, 3, 4, 5, 0] rfl ?_
          exact hself _ _ _ _ hq
        · have hq := ite_t hq c18
          refine J_goto (pc := 97) X (tgt := 118) dX13_sortAt_97 rfl ?_
          refine J_iload (pc := 118) X (j := 5) rfl dX13_sortAt_118 ?_
          refine J_istore (pc := 120) X (L' := [(5, .inl x6), (0, .inr (.inr 155)), (2, .inl x2), (3, .inl x3), (4, .inl x4), (6, .inl x6)]) (by decide) rfl dX13_sortAt_120 ?_
          refine J_iinc (pc := 122) X (j := 5) (v := (-1)) (L' := [(6, .inl (x6 + (-1))), (5, .inl x6), (0, .inr (.inr 155)), (2, .inl x2), (3, .inl x3), (4, .inl x4)]) rfl (by decide) (by decide) rfl dX13_sortAt_122 ?_
          refine J_goto (pc := 125) X (tgt := 57) dX13_sortAt_125 rfl ?_
          refine J_sub [2, 3, 4, 5, 1, 0] rfl ?_
          exact hself _ _ _ _ hq
theorem tL_X13_sortAt_57 {κ : Kx} (X : OK κ cX13_sortAt 7 (some .int) "StruckWordsModel" 4) (x2 : Int32) (x3 : Int32) (x4 : Int32) (k128 : Int32 → Hp → Option (Int32 × Hp)) (N : Nat) (x5 : Int32) (x6 : Int32) (h : Hp) (q : (Int32 × Hp)) (hk128 : ∀ (x5 : Int32) (h : Hp) (q : (Int32 × Hp)), k128 x5 h = some q → J κ 128 [(0, .inr (.inr 155)), (2, .inl x2), (4, .inl x4), (5, .inl x5)] [] h (some (.inl q.1), q.2)) (hq : itr3 (F_X13_sortAt_57 x2 x3 x4 k128) N x5 x6 h = some q) : J κ 57 [(0, .inr (.inr 155)), (2, .inl x2), (3, .inl x3), (4, .inl x4), (5, .inl x5), (6, .inl x6)] [] h (some (.inl q.1), q.2) :=
  itr3_ind (fun self hs x5 x6 h q hq => tF_X13_sortAt_57 X x2 x3 x4 k128 self x5 x6 h q hk128 hs hq) N x5 x6 h q hq
theorem tF_X13_sortAt_45 {κ : Kx} (X : OK κ cX13_sortAt 7 (some .int) "StruckWordsModel" 4) (x2 : Int32) (k133 : Hp → Option (Int32 × Hp)) (k144 : Int32 → Hp → Option (Int32 × Hp)) (self : Int32 → Int32 → Hp → Option (Int32 × Hp)) (x3 : Int32) (x4 : Int32) (h : Hp) (q : (Int32 × Hp)) (hk133 : ∀ (h : Hp) (q : (Int32 × Hp)), k133 h = some q → J κ 133 [] [] h (some (.inl q.1), q.2)) (hk144 : ∀ (x3 : Int32) (h : Hp) (q : (Int32 × Hp)), k144 x3 h = some q → J κ 144 [(3, .inl x3)] [] h (some (.inl q.1), q.2)) (hself : ∀ (x3 : Int32) (x4 : Int32) (h : Hp) (q : (Int32 × Hp)), self x3 x4 h = some q → J κ 45 [(0, .inr (.inr 155)), (2, .inl x2), (3, .inl x3), (4, .inl x4)] [] h (some (.inl q.1), q.2)) (hq : F_X13_sortAt_45 x2 k133 k144 self x3 x4 h = some q) : J κ 45 [(0, .inr (.inr 155)), (2, .inl x2), (3, .inl x3), (4, .inl x4)] [] h (some (.inl q.1), q.2) := by
  delta F_X13_sortAt_45 at hq
  refine J_iload (pc := 45) X (j := 3) rfl dX13_sortAt_45 ?_
  refine J_iload_n (pc := 47) X (j := 1) (i := 2) rfl rfl dX13_sortAt_47 ?_
  refine J_icmp_gt (pc := 48) (tgt := 144) X dX13_sortAt_48 rfl (fun c10 => ?_) (fun c10 => ?_)
  · have hq := ite_t hq c10
    refine J_sub [2] rfl ?_
    exact hk144 _ _ _ hq
  · have hq := ite_f hq c10
    refine J_iconst (pc := 51) X (v := (-1)) (by decide) dX13_sortAt_51 ?_
    refine J_istore (pc := 52) X (L' := [(5, .inl (-1)), (0, .inr (.inr 155)), (2, .inl x2), (3, .inl x3), (4, .inl x4)]) (by decide) rfl dX13_sortAt_52 ?_
    refine J_iconst (pc := 54) X (v := 4) (by decide) dX13_sortAt_54 ?_
    refine J_istore (pc := 55) X (L' := [(6, .inl 4), (5, .inl (-1)), (0, .inr (.inr 155)), (2, .inl x2), (3, .inl x3), (4, .inl x4)]) (by decide) rfl dX13_sortAt_55 ?_
    refine J_sub [2, 3, 4, 5, 1, 0] rfl ?_
    refine tL_X13_sortAt_57 X _ _ _ _ N0 _ _ _ _ ?_ hq
    · intro v20 h19 q hq
      refine J_iload (pc := 128) X (j := 3) rfl dX13_sortAt_128 ?_
      refine J_if_ge (pc := 130) (tgt := 135) X dX13_sortAt_130 rfl (fun c21 => ?_) (fun c21 => ?_)
      · have hq := ite_t hq c21
        refine J_iload (pc := 135) X (j := 3) rfl dX13_sortAt_135 ?_
        refine J_istore_n (pc := 137) X (L' := [(3, .inl v20), (0, .inr (.inr 155)), (2, .inl x2), (4, .inl x4), (5, .inl v20)]) (i := 3) rfl (by decide) rfl dX13_sortAt_137 ?_
        refine J_iinc (pc := 138) X (j := 3) (v := 1) (L' := [(4, .inl (x4 + 1)), (3, .inl v20), (0, .inr (.inr 155)), (2, .inl x2), (5, .inl v20)]) rfl (by decide) (by decide) rfl dX13_sortAt_138 ?_
        refine J_goto (pc := 141) X (tgt := 45) dX13_sortAt_141 rfl ?_
        refine J_sub [2, 3, 1, 0] rfl ?_
        exact hself _ _ _ _ hq
      · have hq := ite_f hq c21
        refine J_sub [] rfl ?_
        exact hk133 _ _ hq
theorem tL_X13_sortAt_45 {κ : Kx} (X : OK κ cX13_sortAt 7 (some .int) "StruckWordsModel" 4) (x2 : Int32) (k133 : Hp → Option (Int32 × Hp)) (k144 : Int32 → Hp → Option (Int32 × Hp)) (N : Nat) (x3 : Int32) (x4 : Int32) (h : Hp) (q : (Int32 × Hp)) (hk133 : ∀ (h : Hp) (q : (Int32 × Hp)), k133 h = some q → J κ 133 [] [] h (some (.inl q.1), q.2)) (hk144 : ∀ (x3 : Int32) (h : Hp) (q : (Int32 × Hp)), k144 x3 h = some q → J κ 144 [(3, .inl x3)] [] h (some (.inl q.1), q.2)) (hq : itr3 (F_X13_sortAt_45 x2 k133 k144) N x3 x4 h = some q) : J κ 45 [(0, .inr (.inr 155)), (2, .inl x2), (3, .inl x3), (4, .inl x4)] [] h (some (.inl q.1), q.2) :=
  itr3_ind (fun self hs x3 x4 h q hq => tF_X13_sortAt_45 X x2 k133 k144 self x3 x4 h q hk133 hk144 hs hq) N x3 x4 h q hq
theorem tf_X13_sortAt {κ : Kx} (X : OK κ cX13_sortAt 7 (some .int) "StruckWordsModel" 4) (x1 : Int32) (x2 : Int32) (h : Hp) (q : (Int32 × Hp)) (hq : f_X13_sortAt x1 x2 h = some q) : J κ 0 [(0, .inr (.inr 155)), (1, .inl x1), (2, .inl x2)] [] h (some (.inl q.1), q.2) := by
  delta f_X13_sortAt at hq
  refine J_aload_n (pc := 0) X (j := 0) (i := 0) rfl rfl dX13_sortAt_0 ?_
  refine J_iconst (pc := 1) X (v := 0) (by decide) dX13_sortAt_1 ?_
  refine J_putI (pc := 2) X ly155 fp_13_1 dX13_sortAt_2 ?_
  refine J_ltH hq (fun h1 hq => ?_)
  refine J_aload_n (pc := 5) X (j := 0) (i := 0) rfl rfl dX13_sortAt_5 ?_
  refine J_iload_n (pc := 6) X (j := 1) (i := 1) rfl rfl dX13_sortAt_6 ?_
  obtain ⟨v3, h2, hc, hq⟩ := bnd_e hq
  refine J_callV (pc := 7) (as := [.inl x1]) (st := []) (st2 := [.inl v3]) (r1 := (some (.inl v3), h2)) (h2 := h2) (ky := 2) X dX13_sortAt_7 ca_X13_isBeginning ci_X13_isBeginning cs_X13_isBeginning ml_13_310 (by decide) ly155 rfl rfl (m_X13_isBeginning _ _ _ hc) rfl rfl (Nat.le_of_ble_eq_true rfl) rfl rfl ?_
  refine J_if_ne (pc := 10) (tgt := 15) X dX13_sortAt_10 rfl (fun c4 => ?_) (fun c4 => ?_)
  · have hq := ite_f hq c4
    refine J_aload_n (pc := 15) X (j := 0) (i := 0) rfl rfl dX13_sortAt_15 ?_
    refine J_iload_n (pc := 16) X (j := 1) (i := 1) rfl rfl dX13_sortAt_16 ?_
    obtain ⟨h5, hc, hq⟩ := bnv_e hq
    refine J_callV (pc := 17) (as := [.inl x1]) (st := []) (st2 := []) (r1 := (none, h5)) (h2 := h5) (ky := 3) X dX13_sortAt_17 ca_X13_leaveText ci_X13_leaveText cs_X13_leaveText ml_13_313 (by decide) ly155 rfl rfl (m_X13_leaveText _ _ _ hc) rfl rfl (Nat.le_of_ble_eq_true rfl) rfl rfl ?_
    refine J_iload_n (pc := 20) X (j := 2) (i := 2) rfl rfl dX13_sortAt_20 ?_
    refine J_iconst (pc := 21) X (v := 0) (by decide) dX13_sortAt_21 ?_
    refine J_aload_n (pc := 22) X (j := 0) (i := 0) rfl rfl dX13_sortAt_22 ?_
    refine J_getI (pc := 23) X ly155 fl_13_303 dX13_sortAt_23 ?_
    refine J_iconst (pc := 26) X (v := 1) (by decide) dX13_sortAt_26 ?_
    refine J_isub (pc := 27) X dX13_sortAt_27 ?_
    obtain ⟨v7, h6, hc, hq⟩ := bnd_e hq
    refine J_callS (pc := 28) (as := [.inl x2, .inl 0, .inl ((h5.1 155 27) - 1)]) (st := []) (st2 := [.inl v7]) (r1 := (some (.inl v7), h6)) (h2 := h6) (ky := 1) X dX13_sortAt_28 ca_X13_isIn cz_X13_isIn ml_13_204 (by decide) (m_X13_isIn _ _ _ _ _ hc) rfl rfl (Nat.le_of_ble_eq_true rfl) rfl rfl ?_
    refine J_if_ne (pc := 31) (tgt := 36) X dX13_sortAt_31 rfl (fun c8 => ?_) (fun c8 => ?_)
    · have hq := ite_f hq c8
      refine J_aload_n (pc := 36) X (j := 0) (i := 0) rfl rfl dX13_sortAt_36 ?_
      obtain ⟨h9, hc, hq⟩ := bnv_e hq
      refine J_callV (pc := 37) (as := []) (st := []) (st2 := []) (r1 := (none, h9)) (h2 := h9) (ky := 1) X dX13_sortAt_37 ca_X13_count ci_X13_count cs_X13_count ml_13_338 (by decide) ly155 rfl rfl (m_X13_count _ _ hc) rfl rfl (Nat.le_of_ble_eq_true rfl) rfl rfl ?_
      refine J_iconst (pc := 40) X (v := (-1)) (by decide) dX13_sortAt_40 ?_
      refine J_istore_n (pc := 41) X (L' := [(3, .inl (-1)), (0, .inr (.inr 155)), (1, .inl x1), (2, .inl x2)]) (i := 3) rfl (by decide) rfl dX13_sortAt_41 ?_
      refine J_iconst (pc := 42) X (v := 0) (by decide) dX13_sortAt_42 ?_
      refine J_istore (pc := 43) X (L' := [(4, .inl 0), (3, .inl (-1)), (0, .inr (.inr 155)), (1, .inl x1), (2, .inl x2)]) (by decide) rfl dX13_sortAt_43 ?_
      refine J_sub [2, 4, 1, 0] rfl ?_
      refine tL_X13_sortAt_45 X _ _ _ N0 _ _ _ _ ?_ ?_ hq
      · intro h22 q hq
        refine J_iconst (pc := 133) X (v := (-1)) (by decide) dX13_sortAt_133 ?_
        obtain rfl := Option.some.inj hq
        exact J_iret (pc := 134) X dX13_sortAt_134
      · intro v24 h23 q hq
        refine J_iload_n (pc := 144) X (j := 0) (i := 3) rfl rfl dX13_sortAt_144 ?_
        obtain rfl := Option.some.inj hq
        exact J_iret (pc := 145) X dX13_sortAt_145
    · have hq := ite_t hq c8
      refine J_iconst (pc := 34) X (v := (-1)) (by decide) dX13_sortAt_34 ?_
      obtain rfl := Option.some.inj hq
      exact J_iret (pc := 35) X dX13_sortAt_35
  · have hq := ite_t hq c4
    refine J_iconst (pc := 13) X (v := (-1)) (by decide) dX13_sortAt_13 ?_
    obtain rfl := Option.some.inj hq
    exact J_iret (pc := 14) X dX13_sortAt_14
theorem m_X13_sortAt (x1 : Int32) (x2 : Int32) (h : Hp) (q : (Int32 × Hp)) (hq : f_X13_sortAt x1 x2 h = some q) : ∀ l w, CT l w yX13_sortAt cX13_sortAt 7 (some .int) 4 [.inr (.inr 155), .inl x1, .inl x2] h (some (.inl q.1), q.2) :=
  CT_of (L0 := [(0, .inr (.inr 155)), (1, .inl x1), (2, .inl x2)]) (by decide) rfl (Nat.le_of_ble_eq_true rfl) (fun κ X => tf_X13_sortAt X x1 x2 h q  hq)
theorem tF_X13_turns_15 {κ : Kx} (X : OK κ cX13_turns 4 (some .int) "StruckWordsModel" 5) (x1 : Int32) (k50 : Int32 → Hp → Option (Int32 × Hp)) (self : Int32 → Int32 → Hp → Option (Int32 × Hp)) (x2 : Int32) (x3 : Int32) (h : Hp) (q : (Int32 × Hp)) (hk50 : ∀ (x2 : Int32) (h : Hp) (q : (Int32 × Hp)), k50 x2 h = some q → J κ 50 [(2, .inl x2)] [] h (some (.inl q.1), q.2)) (hself : ∀ (x2 : Int32) (x3 : Int32) (h : Hp) (q : (Int32 × Hp)), self x2 x3 h = some q → J κ 15 [(0, .inr (.inr 155)), (1, .inl x1), (2, .inl x2), (3, .inl x3)] [] h (some (.inl q.1), q.2)) (hq : F_X13_turns_15 x1 k50 self x2 x3 h = some q) : J κ 15 [(0, .inr (.inr 155)), (1, .inl x1), (2, .inl x2), (3, .inl x3)] [] h (some (.inl q.1), q.2) := by
  delta F_X13_turns_15 at hq
  refine J_iload_n (pc := 15) X (j := 3) (i := 3) rfl rfl dX13_turns_15 ?_
  refine J_aload_n (pc := 16) X (j := 0) (i := 0) rfl rfl dX13_turns_16 ?_
  refine J_getF (pc := 17) X (b := 157) ly155 fl_13_33 rfl dX13_turns_17 ?_
  refine J_iconst (pc := 20) X (v := 3) (by decide) dX13_turns_20 ?_
  refine J_iaload (pc := 21) X ly157 (by decide) dX13_turns_21 ?_
  refine J_icmp_gt (pc := 22) (tgt := 50) X dX13_turns_22 rfl (fun c4 => ?_) (fun c4 => ?_)
  · have hq := ite_t hq c4
    refine J_sub [2] rfl ?_
    exact hk50 _ _ _ hq
  · have hq := ite_f hq c4
    refine J_iload_n (pc := 25) X (j := 2) (i := 2) rfl rfl dX13_turns_25 ?_
    refine J_aload_n (pc := 26) X (j := 0) (i := 0) rfl rfl dX13_turns_26 ?_
    refine J_iload_n (pc := 27) X (j := 3) (i := 3) rfl rfl dX13_turns_27 ?_
    obtain ⟨v6, h5, hc, hq⟩ := bnd_e hq
    refine J_callV (pc := 28) (as := [.inl x3]) (st := [.inl x2]) (st2 := [.inl v6, .inl x2]) (r1 := (some (.inl v6), h5)) (h2 := h5) (ky := 4) X dX13_turns_28 ca_X13_textMeans ci_X13_textMeans cs_X13_textMeans ml_13_335 (by decide) ly155 rfl rfl (m_X13_textMeans _ _ _ hc) rfl rfl (Nat.le_of_ble_eq_true rfl) rfl rfl ?_
    refine J_iload_n (pc := 31) X (j := 1) (i := 1) rfl rfl dX13_turns_31 ?_
    refine J_icmp_eq (pc := 32) (tgt := 41) X dX13_turns_32 rfl (fun c7 => ?_) (fun c7 => ?_)
    · have hq := ite_t hq c7
      refine J_iconst (pc := 41) X (v := 0) (by decide) dX13_turns_41 ?_
      refine J_ior (pc := 42) X dX13_turns_42 ?_
      refine J_ltI hq (fun v8 hq => ?_)
      refine J_istore_n (pc := 43) X (L' := [(2, .inl v8), (0, .inr (.inr 155)), (1, .inl x1), (3, .inl x3)]) (i := 2) rfl (by decide) rfl dX13_turns_43 ?_
      refine J_iinc (pc := 44) X (j := 3) (v := 1) (L' := [(3, .inl (x3 + 1)), (2, .inl v8), (0, .inr (.inr 155)), (1, .inl x1)]) rfl (by decide) (by decide) rfl dX13_turns_44 ?_
      refine J_goto (pc := 47) X (tgt := 15) dX13_turns_47 rfl ?_
      refine J_sub [2, 3, 1, 0] rfl ?_
      exact hself _ _ _ _ hq
    · have hq := ite_f hq c7
      refine J_iconst (pc := 35) X (v := 1) (by decide) dX13_turns_35 ?_
      refine J_iload_n (pc := 36) X (j := 3) (i := 3) rfl rfl dX13_turns_36 ?_
      refine J_ishl (pc := 37) X dX13_turns_37 ?_
      refine J_goto (pc := 38) X (tgt := 42) dX13_turns_38 rfl ?_
      refine J_ior (pc := 42) X dX13_turns_42 ?_
      refine J_ltI hq (fun v9 hq => ?_)
      refine J_istore_n (pc := 43) X (L' := [(2, .inl v9), (0, .inr (.inr 155)), (1, .inl x1), (3, .inl x3)]) (i := 2) rfl (by decide) rfl dX13_turns_43 ?_
      refine J_iinc (pc := 44) X (j := 3) (v := 1) (L' := [(3, .inl (x3 + 1)), (2, .inl v9), (0, .inr (.inr 155)), (1, .inl x1)]) rfl (by decide) (by decide) rfl dX13_turns_44 ?_
      refine J_goto (pc := 47) X (tgt := 15) dX13_turns_47 rfl ?_
      refine J_sub [2, 3, 1, 0] rfl ?_
      exact hself _ _ _ _ hq
theorem tL_X13_turns_15 {κ : Kx} (X : OK κ cX13_turns 4 (some .int) "StruckWordsModel" 5) (x1 : Int32) (k50 : Int32 → Hp → Option (Int32 × Hp)) (N : Nat) (x2 : Int32) (x3 : Int32) (h : Hp) (q : (Int32 × Hp)) (hk50 : ∀ (x2 : Int32) (h : Hp) (q : (Int32 × Hp)), k50 x2 h = some q → J κ 50 [(2, .inl x2)] [] h (some (.inl q.1), q.2)) (hq : itr3 (F_X13_turns_15 x1 k50) N x2 x3 h = some q) : J κ 15 [(0, .inr (.inr 155)), (1, .inl x1), (2, .inl x2), (3, .inl x3)] [] h (some (.inl q.1), q.2) :=
  itr3_ind (fun self hs x2 x3 h q hq => tF_X13_turns_15 X x1 k50 self x2 x3 h q hk50 hs hq) N x2 x3 h q hq
theorem tf_X13_turns {κ : Kx} (X : OK κ cX13_turns 4 (some .int) "StruckWordsModel" 5) (h : Hp) (q : (Int32 × Hp)) (hq : f_X13_turns h = some q) : J κ 0 [(0, .inr (.inr 155))] [] h (some (.inl q.1), q.2) := by
  delta f_X13_turns at hq
  refine J_aload_n (pc := 0) X (j := 0) (i := 0) rfl rfl dX13_turns_0 ?_
  refine J_iconst (pc := 1) X (v := 0) (by decide) dX13_turns_1 ?_
  refine J_putI (pc := 2) X ly155 fp_13_1 dX13_turns_2 ?_
  refine J_ltH hq (fun h1 hq => ?_)
  refine J_aload_n (pc := 5) X (j := 0) (i := 0) rfl rfl dX13_turns_5 ?_
  refine J_iconst (pc := 6) X (v := 0) (by decide) dX13_turns_6 ?_
  obtain ⟨v3, h2, hc, hq⟩ := bnd_e hq
  refine J_callV (pc := 7) (as := [.inl 0]) (st := []) (st2 := [.inl v3]) (r1 := (some (.inl v3), h2)) (h2 := h2) (ky := 4) X dX13_turns_7 ca_X13_textMeans ci_X13_textMeans cs_X13_textMeans ml_13_335 (by decide) ly155 rfl rfl (m_X13_textMeans _ _ _ hc) rfl rfl (Nat.le_of_ble_eq_true rfl) rfl rfl ?_
  refine J_istore_n (pc := 10) X (L' := [(1, .inl v3), (0, .inr (.inr 155))]) (i := 1) rfl (by decide) rfl dX13_turns_10 ?_
  refine J_iconst (pc := 11) X (v := 0) (by decide) dX13_turns_11 ?_
  refine J_istore_n (pc := 12) X (L' := [(2, .inl 0), (1, .inl v3), (0, .inr (.inr 155))]) (i := 2) rfl (by decide) rfl dX13_turns_12 ?_
  refine J_iconst (pc := 13) X (v := 1) (by decide) dX13_turns_13 ?_
  refine J_istore_n (pc := 14) X (L' := [(3, .inl 1), (2, .inl 0), (1, .inl v3), (0, .inr (.inr 155))]) (i := 3) rfl (by decide) rfl dX13_turns_14 ?_
  refine J_sub [3, 2, 1, 0] rfl ?_
  refine tL_X13_turns_15 X _ _ N0 _ _ _ _ ?_ hq
  · intro v11 h10 q hq
    refine J_iload_n (pc := 50) X (j := 0) (i := 2) rfl rfl dX13_turns_50 ?_
    obtain rfl := Option.some.inj hq
    exact J_iret (pc := 51) X dX13_turns_51
theorem m_X13_turns (h : Hp) (q : (Int32 × Hp)) (hq : f_X13_turns  h = some q) : ∀ l w, CT l w yX13_turns cX13_turns 4 (some .int) 5 [.inr (.inr 155)] h (some (.inl q.1), q.2) :=
  CT_of (L0 := [(0, .inr (.inr 155))]) (by decide) rfl (Nat.le_of_ble_eq_true rfl) (fun κ X => tf_X13_turns X  h q  hq)
