theorem tf_X6_isChange {κ : Kx} (X : OK κ cX6_isChange 2 (some .boolean) "StruckWords$Reader" 1) (h : Hp) (q : (Int32 × Hp)) (hq : f_X6_isChange h = some q) : J κ 0 [(0, .inr (.inr 4))] [] h (some (.inl q.1), q.2) := by
  delta f_X6_isChange at hq
  refine J_aload_n (pc := 0) X (j := 0) (i := 0) rfl rfl dX6_isChange_0 ?_
  refine J_getF (pc := 1) X (b := 5) ly4 fl_6_12 rfl dX6_isChange_1 ?_
  refine J_getR (pc := 4) X ly5 fl_6_87 dX6_isChange_4 ?_
  refine J_ltR hq (fun r1 hq => ?_)
  obtain ⟨g2, hq⟩ := gd hq
  refine J_astore_n (pc := 7) X (L' := [(1, .inr (.inr r1)), (0, .inr (.inr 4))]) (i := 1) rfl (by decide) rfl dX6_isChange_7 ?_
  refine J_aload_n (pc := 8) X (j := 0) (i := 1) rfl rfl dX6_isChange_8 ?_
  refine J_getK (pc := 9) X (i := 11) (by decide) kf_6_208 dX6_isChange_9 ?_
  refine J_acmp_eq (pc := 12) (tgt := 29) X g2 (show isKw 311 = true from rfl) dX6_isChange_12 rfl (fun c3 => ?_) (fun c3 => ?_)
  · have hq := ite_t hq c3
    refine J_iconst (pc := 29) X (v := 1) (by decide) dX6_isChange_29 ?_
    refine J_goto (pc := 30) X (tgt := 34) dX6_isChange_30 rfl ?_
    obtain rfl := Option.some.inj hq
    exact J_zret (pc := 34) X (by decide) dX6_isChange_34
  · have hq := ite_f hq c3
    refine J_aload_n (pc := 15) X (j := 0) (i := 1) rfl rfl dX6_isChange_15 ?_
    refine J_getK (pc := 16) X (i := 12) (by decide) kf_6_211 dX6_isChange_16 ?_
    refine J_acmp_eq (pc := 19) (tgt := 29) X g2 (show isKw 312 = true from rfl) dX6_isChange_19 rfl (fun c4 => ?_) (fun c4 => ?_)
    · have hq := ite_t hq c4
      refine J_iconst (pc := 29) X (v := 1) (by decide) dX6_isChange_29 ?_
      refine J_goto (pc := 30) X (tgt := 34) dX6_isChange_30 rfl ?_
      obtain rfl := Option.some.inj hq
      exact J_zret (pc := 34) X (by decide) dX6_isChange_34
    · have hq := ite_f hq c4
      refine J_aload_n (pc := 22) X (j := 0) (i := 1) rfl rfl dX6_isChange_22 ?_
      refine J_getK (pc := 23) X (i := 13) (by decide) kf_6_214 dX6_isChange_23 ?_
      refine J_acmp_ne (pc := 26) (tgt := 33) X g2 (show isKw 313 = true from rfl) dX6_isChange_26 rfl (fun c5 => ?_) (fun c5 => ?_)
      · have hq := ite_f hq c5
        refine J_iconst (pc := 33) X (v := 0) (by decide) dX6_isChange_33 ?_
        obtain rfl := Option.some.inj hq
        exact J_zret (pc := 34) X (by decide) dX6_isChange_34
      · have hq := ite_t hq c5
        refine J_iconst (pc := 29) X (v := 1) (by decide) dX6_isChange_29 ?_
        refine J_goto (pc := 30) X (tgt := 34) dX6_isChange_30 rfl ?_
        obtain rfl := Option.some.inj hq
        exact J_zret (pc := 34) X (by decide) dX6_isChange_34
theorem m_X6_isChange (h : Hp) (q : (Int32 × Hp)) (hq : f_X6_isChange  h = some q) : ∀ l w, CT l w yX6_isChange cX6_isChange 2 (some .boolean) 1 [.inr (.inr 4)] h (some (.inl q.1), q.2) :=
  CT_of (L0 := [(0, .inr (.inr 4))]) (by decide) rfl (Nat.le_of_ble_eq_true rfl) (fun κ X => tf_X6_isChange X  h q  hq)
theorem tF_X10_change_14 {κ : Kx} (X : OK κ cX10_change 7 (none) "StruckWords$Tongue" 1) (x0 : Nat) (x3 : Int32) (x4 : Int32) (x5 : Int32) (k49 : Hp → Option Hp) (self : Int32 → Hp → Option Hp) (x6 : Int32) (h : Hp) (q : Hp) (lx0 : lay x0 = some (.inl 8)) (hk49 : ∀ (h : Hp) (q : Hp), k49 h = some q → J κ 49 [] [] h (none, q)) (hself : ∀ (x6 : Int32) (h : Hp) (q : Hp), self x6 h = some q → J κ 14 [(0, .inr (.inr x0)), (3, .inl x3), (4, .inl x4), (5, .inl x5), (6, .inl x6)] [] h (none, q)) (hq : F_X10_change_14 x0 x3 x4 x5 k49 self x6 h = some q) : J κ 14 [(0, .inr (.inr x0)), (3, .inl x3), (4, .inl x4), (5, .inl x5), (6, .inl x6)] [] h (none, q) := by
  delta F_X10_change_14 at hq
  refine J_iload (pc := 14) X (j := 4) rfl dX10_change_14 ?_
  refine J_iload (pc := 16) X (j := 3) rfl dX10_change_16 ?_
  refine J_bipush (pc := 18) X (v := 8) (by decide) dX10_change_18 ?_
  refine J_iadd (pc := 20) X dX10_change_20 ?_
  refine J_icmp_ge (pc := 21) (tgt := 49) X dX10_change_21 rfl (fun c2 => ?_) (fun c2 => ?_)
  · have hq := ite_t hq c2
    refine J_sub [] rfl ?_
    exact hk49 _ _ hq
  · have hq := ite_f hq c2
    refine J_aload_n (pc := 24) X (j := 0) (i := 0) rfl rfl dX10_change_24 ?_
    refine J_getF (pc := 25) X (b := x0 + 9) lx0 fl_10_41 rfl dX10_change_25 ?_
    refine J_iload (pc := 28) X (j := 4) rfl dX10_change_28 ?_
    refine J_aload_n (pc := 30) X (j := 0) (i := 0) rfl rfl dX10_change_30 ?_
    refine J_getF (pc := 31) X (b := x0 + 9) lx0 fl_10_41 rfl dX10_change_31 ?_
    refine J_iload (pc := 34) X (j := 4) rfl dX10_change_34 ?_
    obtain ⟨g3, hq⟩ := gd hq
    refine J_iaload (pc := 36) X (ly_8_9 lx0) g3 dX10_change_36 ?_
    refine J_iload_n (pc := 37) X (j := 1) (i := 3) rfl rfl dX10_change_37 ?_
    refine J_iand (pc := 38) X dX10_change_38 ?_
    refine J_iload (pc := 39) X (j := 2) rfl dX10_change_39 ?_
    refine J_ixor (pc := 41) X dX10_change_41 ?_
    obtain ⟨g4, hq⟩ := gd hq
    refine J_iastore (pc := 42) X (ly_8_9 lx0) g4 dX10_change_42 ?_
    refine J_ltH hq (fun h5 hq => ?_)
    refine J_iinc (pc := 43) X (j := 4) (v := 1) (L' := [(6, .inl (x6 + 1)), (0, .inr (.inr x0)), (3, .inl x3), (4, .inl x4), (5, .inl x5)]) rfl (by decide) (by decide) rfl dX10_change_43 ?_
    refine J_goto (pc := 46) X (tgt := 14) dX10_change_46 rfl ?_
    refine J_sub [1, 2, 3, 4, 0] rfl ?_
    exact hself _ _ _ hq
theorem tL_X10_change_14 {κ : Kx} (X : OK κ cX10_change 7 (none) "StruckWords$Tongue" 1) (x0 : Nat) (x3 : Int32) (x4 : Int32) (x5 : Int32) (k49 : Hp → Option Hp) (N : Nat) (x6 : Int32) (h : Hp) (q : Hp) (lx0 : lay x0 = some (.inl 8)) (hk49 : ∀ (h : Hp) (q : Hp), k49 h = some q → J κ 49 [] [] h (none, q)) (hq : itr2 (F_X10_change_14 x0 x3 x4 x5 k49) N x6 h = some q) : J κ 14 [(0, .inr (.inr x0)), (3, .inl x3), (4, .inl x4), (5, .inl x5), (6, .inl x6)] [] h (none, q) :=
  itr2_ind (fun self hs x6 h q hq => tF_X10_change_14 X x0 x3 x4 x5 k49 self x6 h q lx0 hk49 hs hq) N x6 h q hq
theorem tf_X10_change {κ : Kx} (X : OK κ cX10_change 7 (none) "StruckWords$Tongue" 1) (x0 : Nat) (x1 : Int32) (x2 : Int32) (x3 : Int32) (x4 : Int32) (h : Hp) (q : Hp) (lx0 : lay x0 = some (.inl 8)) (hq : f_X10_change x0 x1 x2 x3 x4 h = some q) : J κ 0 [(0, .inr (.inr x0)), (1, .inl x1), (2, .inl x2), (3, .inl x3), (4, .inl x4)] [] h (none, q) := by
  delta f_X10_change at hq
  refine J_iload_n (pc := 0) X (j := 1) (i := 1) rfl rfl dX10_change_0 ?_
  refine J_iconst (pc := 1) X (v := 5) (by decide) dX10_change_1 ?_
  refine J_imul (pc := 2) X dX10_change_2 ?_
  refine J_iload_n (pc := 3) X (j := 2) (i := 2) rfl rfl dX10_change_3 ?_
  refine J_iadd (pc := 4) X dX10_change_4 ?_
  refine J_bipush (pc := 5) X (v := 8) (by decide) dX10_change_5 ?_
  refine J_imul (pc := 7) X dX10_change_7 ?_
  refine J_ltI hq (fun v1 hq => ?_)
  refine J_istore (pc := 8) X (L' := [(5, .inl v1), (0, .inr (.inr x0)), (1, .inl x1), (2, .inl x2), (3, .inl x3), (4, .inl x4)]) (by decide) rfl dX10_change_8 ?_
  refine J_iload (pc := 10) X (j := 0) rfl dX10_change_10 ?_
  refine J_istore (pc := 12) X (L' := [(6, .inl v1), (5, .inl v1), (0, .inr (.inr x0)), (1, .inl x1), (2, .inl x2), (3, .inl x3), (4, .inl x4)]) (by decide) rfl dX10_change_12 ?_
  refine J_sub [2, 5, 6, 1, 0] rfl ?_
  refine tL_X10_change_14 X _ _ _ _ _ N0 _ _ _ lx0 ?_ hq
  · intro h6 q hq
    obtain rfl := Option.some.inj hq
    exact J_vret (pc := 49) X dX10_change_49
theorem m_X10_change (x0 : Nat) (x1 : Int32) (x2 : Int32) (x3 : Int32) (x4 : Int32) (h : Hp) (q : Hp) (lx0 : lay x0 = some (.inl 8)) (hq : f_X10_change x0 x1 x2 x3 x4 h = some q) : ∀ l w, CT l w yX10_change cX10_change 7 (none) 1 [.inr (.inr x0), .inl x1, .inl x2, .inl x3, .inl x4] h (none, q) :=
  CT_of (L0 := [(0, .inr (.inr x0)), (1, .inl x1), (2, .inl x2), (3, .inl x3), (4, .inl x4)]) (by decide) rfl (Nat.le_of_ble_eq_true rfl) (fun κ X => tf_X10_change X x0 x1 x2 x3 x4 h q lx0 hq)
theorem tB_X6_readChange_82 {κ : Kx} (X : OK κ cX6_readChange 7 (some .boolean) "StruckWords$Reader" 3) (t0 : Int32) (t1 : Int32) (t2 : Int32) (t3 : Int32) (t4 : Nat) (h : Hp) (q : (Int32 × Hp)) (lt4 : lay t4 = some (.inl 8)) (hq : B_X6_readChange_82 t0 t1 t2 t3 t4 h = some q) : J κ 82 [(0, .inr (.inr 4))] [.inl t0, .inl t1, .inl t2, .inl t3, .inr (.inr t4)] h (some (.inl q.1), q.2) := by
  delta B_X6_readChange_82 at hq
  obtain ⟨h14, hc, hq⟩ := bnv_e hq
  refine J_callV (pc := 82) (as := [.inl t3, .inl t2, .inl t1, .inl t0]) (st := []) (st2 := []) (r1 := (none, h14)) (h2 := h14) (ky := 1) X dX6_readChange_82 ca_X10_change ci_X10_change cs_X10_change ml_6_217 (by decide) lt4 rfl rfl (m_X10_change _ _ _ _ _ _ _ lt4 hc) rfl rfl (Nat.le_of_ble_eq_true rfl) rfl rfl ?_
  refine J_aload_n (pc := 85) X (j := 0) (i := 0) rfl rfl dX6_readChange_85 ?_
  refine J_getF (pc := 86) X (b := 5) ly4 fl_6_12 rfl dX6_readChange_86 ?_
  obtain ⟨h15, hc, hq⟩ := bnv_e hq
  refine J_callV (pc := 89) (as := []) (st := []) (st2 := []) (r1 := (none, h15)) (h2 := h15) (ky := 2) X dX6_readChange_89 ca_X9_advance ci_X9_advance cs_X9_advance ml_6_71 (by decide) ly5 rfl rfl (m_X9_advance _ _ hc) rfl rfl (Nat.le_of_ble_eq_true rfl) rfl rfl ?_
  refine J_iconst (pc := 92) X (v := 1) (by decide) dX6_readChange_92 ?_
  obtain rfl := Option.some.inj hq
  exact J_zret (pc := 93) X (by decide) dX6_readChange_93
theorem tB_X6_readChange_59 {κ : Kx} (X : OK κ cX6_readChange 7 (some .boolean) "StruckWords$Reader" 3) (x1 : Int32) (x2 : Int32) (x3 : Nat) (x5 : Int32) (t0 : Int32) (h : Hp) (q : (Int32 × Hp)) (lx3 : isKw x3 = true) (hq : B_X6_readChange_59 x1 x2 x3 x5 t0 h = some q) : J κ 59 [(0, .inr (.inr 4)), (1, .inl x1), (2, .inl x2), (3, .inr (.inr x3)), (5, .inl x5)] [.inl t0] h (some (.inl q.1), q.2) := by
  delta B_X6_readChange_59 at hq
  refine J_istore (pc := 59) X (L' := [(6, .inl t0), (0, .inr (.inr 4)), (1, .inl x1), (2, .inl x2), (3, .inr (.inr x3)), (5, .inl x5)]) (by decide) rfl dX6_readChange_59 ?_
  refine J_aload_n (pc := 61) X (j := 1) (i := 0) rfl rfl dX6_readChange_61 ?_
  refine J_getR (pc := 62) X ly4 fl_6_74 dX6_readChange_62 ?_
  refine J_ltR hq (fun r11 hq => ?_)
  obtain ⟨g12, hq⟩ := gd hq
  refine J_iload_n (pc := 65) X (j := 2) (i := 1) rfl rfl dX6_readChange_65 ?_
  refine J_iload_n (pc := 66) X (j := 3) (i := 2) rfl rfl dX6_readChange_66 ?_
  refine J_iload (pc := 67) X (j := 0) rfl dX6_readChange_67 ?_
  refine J_aload_n (pc := 69) X (j := 4) (i := 3) rfl rfl dX6_readChange_69 ?_
  refine J_getK (pc := 70) X (i := 12) (by decide) kf_6_211 dX6_readChange_70 ?_
  refine J_acmp_ne (pc := 73) (tgt := 80) X lx3 (show isKw 312 = true from rfl) dX6_readChange_73 rfl (fun c13 => ?_) (fun c13 => ?_)
  · have hq := ite_f hq c13
    refine J_iload (pc := 80) X (j := 5) rfl dX6_readChange_80 ?_
    refine J_sub [1] rfl ?_
    exact tB_X6_readChange_82 X _ _ _ _ _ _ _ (isO_lay g12) hq
  · have hq := ite_t hq c13
    refine J_iconst (pc := 76) X (v := 0) (by decide) dX6_readChange_76 ?_
    refine J_goto (pc := 77) X (tgt := 82) dX6_readChange_77 rfl ?_
    refine J_sub [1] rfl ?_
    exact tB_X6_readChange_82 X _ _ _ _ _ _ _ (isO_lay g12) hq
theorem tf_X6_readChange {κ : Kx} (X : OK κ cX6_readChange 7 (some .boolean) "StruckWords$Reader" 3) (x1 : Int32) (x2 : Int32) (h : Hp) (q : (Int32 × Hp)) (hq : f_X6_readChange x1 x2 h = some q) : J κ 0 [(0, .inr (.inr 4)), (1, .inl x1), (2, .inl x2)] [] h (some (.inl q.1), q.2) := by
  delta f_X6_readChange at hq
  refine J_aload_n (pc := 0) X (j := 0) (i := 0) rfl rfl dX6_readChange_0 ?_
  refine J_getF (pc := 1) X (b := 5) ly4 fl_6_12 rfl dX6_readChange_1 ?_
  refine J_getR (pc := 4) X ly5 fl_6_87 dX6_readChange_4 ?_
  refine J_ltR hq (fun r1 hq => ?_)
  obtain ⟨g2, hq⟩ := gd hq
  refine J_astore_n (pc := 7) X (L' := [(3, .inr (.inr r1)), (0, .inr (.inr 4)), (1, .inl x1), (2, .inl x2)]) (i := 3) rfl (by decide) rfl dX6_readChange_7 ?_
  refine J_aload_n (pc := 8) X (j := 1) (i := 0) rfl rfl dX6_readChange_8 ?_
  refine J_getF (pc := 9) X (b := 5) ly4 fl_6_12 rfl dX6_readChange_9 ?_
  obtain ⟨h3, hc, hq⟩ := bnv_e hq
  refine J_callV (pc := 12) (as := []) (st := []) (st2 := []) (r1 := (none, h3)) (h2 := h3) (ky := 2) X dX6_readChange_12 ca_X9_advance ci_X9_advance cs_X9_advance ml_6_71 (by decide) ly5 rfl rfl (m_X9_advance _ _ hc) rfl rfl (Nat.le_of_ble_eq_true rfl) rfl rfl ?_
  refine J_aload_n (pc := 15) X (j := 1) (i := 0) rfl rfl dX6_readChange_15 ?_
  refine J_iconst (pc := 16) X (v := 5) (by decide) dX6_readChange_16 ?_
  refine J_aload_n (pc := 17) X (j := 1) (i := 0) rfl rfl dX6_readChange_17 ?_
  refine J_getR (pc := 18) X ly4 fl_6_74 dX6_readChange_18 ?_
  refine J_ltR hq (fun r4 hq => ?_)
  obtain ⟨g5, hq⟩ := gd hq
  refine J_getI (pc := 21) X (isO_lay g5) fl_6_154 dX6_readChange_21 ?_
  obtain ⟨v7, h6, hc, hq⟩ := bnd_e hq
  refine J_callV (pc := 24) (as := [.inl 5, .inl (h3.1 r4 1)]) (st := []) (st2 := [.inl v7]) (r1 := (some (.inl v7), h6)) (h2 := h6) (ky := 2) X dX6_readChange_24 ca_X6_toldHere ci_X6_toldHere cs_X6_toldHere ml_6_63 (by decide) ly4 rfl rfl (m_X6_toldHere _ _ _ _ hc) rfl rfl (Nat.le_of_ble_eq_true rfl) rfl rfl ?_
  refine J_istore (pc := 27) X (L' := [(4, .inl v7), (3, .inr (.inr r1)), (0, .inr (.inr 4)), (1, .inl x1), (2, .inl x2)]) (by decide) rfl dX6_readChange_27 ?_
  refine J_iload (pc := 29) X (j := 0) rfl dX6_readChange_29 ?_
  refine J_if_ge (pc := 31) (tgt := 36) X dX6_readChange_31 rfl (fun c8 => ?_) (fun c8 => ?_)
  · have hq := ite_t hq c8
    refine J_iconst (pc := 36) X (v := 1) (by decide) dX6_readChange_36 ?_
    refine J_iload (pc := 37) X (j := 0) rfl dX6_readChange_37 ?_
    refine J_ishl (pc := 39) X dX6_readChange_39 ?_
    refine J_ltI hq (fun v9 hq => ?_)
    refine J_istore (pc := 40) X (L' := [(5, .inl v9), (4, .inl v7), (3, .inr (.inr r1)), (0, .inr (.inr 4)), (1, .inl x1), (2, .inl x2)]) (by decide) rfl dX6_readChange_40 ?_
    refine J_aload_n (pc := 42) X (j := 2) (i := 3) rfl rfl dX6_readChange_42 ?_
    refine J_getK (pc := 43) X (i := 13) (by decide) kf_6_214 dX6_readChange_43 ?_
    refine J_acmp_ne (pc := 46) (tgt := 54) X g2 (show isKw 313 = true from rfl) dX6_readChange_46 rfl (fun c10 => ?_) (fun c10 => ?_)
    · have hq := ite_f hq c10
      refine J_bipush (pc := 54) X (v := 7) (by decide) dX6_readChange_54 ?_
      refine J_iload (pc := 56) X (j := 0) rfl dX6_readChange_56 ?_
      refine J_isub (pc := 58) X dX6_readChange_58 ?_
      refine J_sub [3, 4, 5, 2, 0] rfl ?_
      exact tB_X6_readChange_59 X _ _ _ _ _ _ _ g2 hq
    · have hq := ite_t hq c10
      refine J_bipush (pc := 49) X (v := 7) (by decide) dX6_readChange_49 ?_
      refine J_goto (pc := 51) X (tgt := 59) dX6_readChange_51 rfl ?_
      refine J_sub [3, 4, 5, 2, 0] rfl ?_
      exact tB_X6_readChange_59 X _ _ _ _ _ _ _ g2 hq
  · have hq := ite_f hq c8
    refine J_iconst (pc := 34) X (v := 0) (by decide) dX6_readChange_34 ?_
    obtain rfl := Option.some.inj hq
    exact J_zret (pc := 35) X (by decide) dX6_readChange_35
theorem m_X6_readChange (x1 : Int32) (x2 : Int32) (h : Hp) (q : (Int32 × Hp)) (hq : f_X6_readChange x1 x2 h = some q) : ∀ l w, CT l w yX6_readChange cX6_readChange 7 (some .boolean) 3 [.inr (.inr 4), .inl x1, .inl x2] h (some (.inl q.1), q.2) :=
  CT_of (L0 := [(0, .inr (.inr 4)), (1, .inl x1), (2, .inl x2)]) (by decide) rfl (Nat.le_of_ble_eq_true rfl) (fun κ X => tf_X6_readChange X x1 x2 h q  hq)
theorem tF_X6_readReads_91 {κ : Kx} (X : OK κ cX6_readReads 4 (some .boolean) "StruckWords$Reader" 4) (x1 : Int32) (x2 : Int32) (k113 : Hp → Option (Int32 × Hp)) (k121 : Hp → Option (Int32 × Hp)) (self : Int32 → Hp → Option (Int32 × Hp)) (x3 : Int32) (h : Hp) (q : (Int32 × Hp)) (hk113 : ∀ (h : Hp) (q : (Int32 × Hp)), k113 h = some q → J κ 113 [] [] h (some (.inl q.1), q.2)) (hk121 : ∀ (h : Hp) (q : (Int32 × Hp)), k121 h = some q → J κ 121 [(0, .inr (.inr 4))] [] h (some (.inl q.1), q.2)) (hself : ∀ (x3 : Int32) (h : Hp) (q : (Int32 × Hp)), self x3 h = some q → J κ 91 [(0, .inr (.inr 4)), (1, .inl x1), (2, .inl x2), (3, .inl x3)] [] h (some (.inl q.1), q.2)) (hq : F_X6_readReads_91 x1 x2 k113 k121 self x3 h = some q) : J κ 91 [(0, .inr (.inr 4)), (1, .inl x1), (2, .inl x2), (3, .inl x3)] [] h (some (.inl q.1), q.2) := by
  delta F_X6_readReads_91 at hq
  refine J_iload_n (pc := 91) X (j := 3) (i := 3) rfl rfl dX6_readReads_91 ?_
  refine J_bipush (pc := 92) X (v := 6) (by decide) dX6_readReads_92 ?_
  refine J_icmp_ge (pc := 94) (tgt := 121) X dX6_readReads_94 rfl (fun c22 => ?_) (fun c22 => ?_)
  · have hq := ite_t hq c22
    refine J_sub [0] rfl ?_
    exact hk121 _ _ hq
  · have hq := ite_f hq c22
    refine J_aload_n (pc := 97) X (j := 0) (i := 0) rfl rfl dX6_readReads_97 ?_
    obtain ⟨v24, h23, hc, hq⟩ := bnd_e hq
    refine J_callV (pc := 98) (as := []) (st := []) (st2 := [.inl v24]) (r1 := (some (.inl v24), h23)) (h2 := h23) (ky := 1) X dX6_readReads_98 ca_X6_isChange ci_X6_isChange cs_X6_isChange ml_6_202 (by decide) ly4 rfl rfl (m_X6_isChange _ _ hc) rfl rfl (Nat.le_of_ble_eq_true rfl) rfl rfl ?_
    refine J_if_eq (pc := 101) (tgt := 121) X dX6_readReads_101 rfl (fun c25 => ?_) (fun c25 => ?_)
    · have hq := ite_t hq c25
      refine J_sub [0] rfl ?_
      exact hk121 _ _ hq
    · have hq := ite_f hq c25
      refine J_aload_n (pc := 104) X (j := 0) (i := 0) rfl rfl dX6_readReads_104 ?_
      refine J_iload_n (pc := 105) X (j := 1) (i := 1) rfl rfl dX6_readReads_105 ?_
      refine J_iload_n (pc := 106) X (j := 2) (i := 2) rfl rfl dX6_readReads_106 ?_
      obtain ⟨v27, h26, hc, hq⟩ := bnd_e hq
      refine J_callV (pc := 107) (as := [.inl x1, .inl x2]) (st := []) (st2 := [.inl v27]) (r1 := (some (.inl v27), h26)) (h2 := h26) (ky := 3) X dX6_readReads_107 ca_X6_readChange ci_X6_readChange cs_X6_readChange ml_6_205 (by decide) ly4 rfl rfl (m_X6_readChange _ _ _ _ hc) rfl rfl (Nat.le_of_ble_eq_true rfl) rfl rfl ?_
      refine J_if_ne (pc := 110) (tgt := 115) X dX6_readReads_110 rfl (fun c28 => ?_) (fun c28 => ?_)
      · have hq := ite_f hq c28
        refine J_iinc (pc := 115) X (j := 3) (v := 1) (L' := [(3, .inl (x3 + 1)), (0, .inr (.inr 4)), (1, .inl x1), (2, .inl x2)]) rfl (by decide) (by decide) rfl dX6_readReads_115 ?_
        refine J_goto (pc := 118) X (tgt := 91) dX6_readReads_118 rfl ?_
        refine J_sub [1, 2, 3, 0] rfl ?_
        exact hself _ _ _ hq
      · have hq := ite_t hq c28
        refine J_sub [] rfl ?_
        exact hk113 _ _ hq
theorem tL_X6_readReads_91 {κ : Kx} (X : OK κ cX6_readReads 4 (some .boolean) "StruckWords$Reader" 4) (x1 : Int32) (x2 : Int32) (k113 : Hp → Option (Int32 × Hp)) (k121 : Hp → Option (Int32 × Hp)) (N : Nat) (x3 : Int32) (h : Hp) (q : (Int32 × Hp)) (hk113 : ∀ (h : Hp) (q : (Int32 × Hp)), k113 h = some q → J κ 113 [] [] h (some (.inl q.1), q.2)) (hk121 : ∀ (h : Hp) (q : (Int32 × Hp)), k121 h = some q → J κ 121 [(0, .inr (.inr 4))] [] h (some (.inl q.1), q.2)) (hq : itr2 (F_X6_readReads_91 x1 x2 k113 k121) N x3 h = some q) : J κ 91 [(0, .inr (.inr 4)), (1, .inl x1), (2, .inl x2), (3, .inl x3)] [] h (some (.inl q.1), q.2) :=
  itr2_ind (fun self hs x3 h q hq => tF_X6_readReads_91 X x1 x2 k113 k121 self x3 h q hk113 hk121 hs hq) N x3 h q hq
theorem tB_X6_readReads_121 {κ : Kx} (X : OK κ cX6_readReads 4 (some .boolean) "StruckWords$Reader" 4) (h : Hp) (q : (Int32 × Hp)) (hq : B_X6_readReads_121 h = some q) : J κ 121 [(0, .inr (.inr 4))] [] h (some (.inl q.1), q.2) := by
  delta B_X6_readReads_121 at hq
  refine J_aload_n (pc := 121) X (j := 0) (i := 0) rfl rfl dX6_readReads_121 ?_
  obtain ⟨v32, h31, hc, hq⟩ := bnd_e hq
  refine J_callV (pc := 122) (as := []) (st := []) (st2 := [.inl v32]) (r1 := (some (.inl v32), h31)) (h2 := h31) (ky := 1) X dX6_readReads_122 ca_X6_isChange ci_X6_isChange cs_X6_isChange ml_6_202 (by decide) ly4 rfl rfl (m_X6_isChange _ _ hc) rfl rfl (Nat.le_of_ble_eq_true rfl) rfl rfl ?_
  refine J_if_eq (pc := 125) (tgt := 136) X dX6_readReads_125 rfl (fun c33 => ?_) (fun c33 => ?_)
  · have hq := ite_t hq c33
    refine J_iconst (pc := 136) X (v := 1) (by decide) dX6_readReads_136 ?_
    refine J_goto (pc := 137) X (tgt := 141) dX6_readReads_137 rfl ?_
    obtain rfl := Option.some.inj hq
    exact J_zret (pc := 141) X (by decide) dX6_readReads_141
  · have hq := ite_f hq c33
    refine J_aload_n (pc := 128) X (j := 0) (i := 0) rfl rfl dX6_readReads_128 ?_
    refine J_iconst (pc := 129) X (v := 4) (by decide) dX6_readReads_129 ?_
    obtain ⟨v35, h34, hc, hq⟩ := bnd_e hq
    refine J_callV (pc := 130) (as := [.inl 4]) (st := []) (st2 := [.inl v35]) (r1 := (some (.inl v35), h34)) (h2 := h34) (ky := 1) X dX6_readReads_130 ca_X6_refuse ci_X6_refuse cs_X6_refuse ml_6_48 (by decide) ly4 rfl rfl (m_X6_refuse _ _ _ hc) rfl rfl (Nat.le_of_ble_eq_true rfl) rfl rfl ?_
    refine J_if_eq (pc := 133) (tgt := 140) X dX6_readReads_133 rfl (fun c36 => ?_) (fun c36 => ?_)
    · have hq := ite_t hq c36
      refine J_iconst (pc := 140) X (v := 0) (by decide) dX6_readReads_140 ?_
      obtain rfl := Option.some.inj hq
      exact J_zret (pc := 141) X (by decide) dX6_readReads_141
    · have hq := ite_f hq c36
      refine J_iconst (pc := 136) X (v := 1) (by decide) dX6_readReads_136 ?_
      refine J_goto (pc := 137) X (tgt := 141) dX6_readReads_137 rfl ?_
      obtain rfl := Option.some.inj hq
      exact J_zret (pc := 141) X (by decide) dX6_readReads_141
theorem tB_X6_readReads_73 {κ : Kx} (X : OK κ cX6_readReads 4 (some .boolean) "StruckWords$Reader" 4) (x1 : Int32) (x2 : Int32) (h : Hp) (q : (Int32 × Hp)) (hq : B_X6_readReads_73 x1 x2 h = some q) : J κ 73 [(0, .inr (.inr 4)), (1, .inl x1), (2, .inl x2)] [] h (some (.inl q.1), q.2) := by
  delta B_X6_readReads_73 at hq
  refine J_aload_n (pc := 73) X (j := 0) (i := 0) rfl rfl dX6_readReads_73 ?_
  refine J_getR (pc := 74) X ly4 fl_6_74 dX6_readReads_74 ?_
  refine J_ltR hq (fun r18 hq => ?_)
  obtain ⟨g19, hq⟩ := gd hq
  refine J_iload_n (pc := 77) X (j := 1) (i := 1) rfl rfl dX6_readReads_77 ?_
  refine J_iload_n (pc := 78) X (j := 2) (i := 2) rfl rfl dX6_readReads_78 ?_
  obtain ⟨h20, hc, hq⟩ := bnv_e hq
  refine J_callV (pc := 79) (as := [.inl x1, .inl x2]) (st := []) (st2 := []) (r1 := (none, h20)) (h2 := h20) (ky := 1) X dX6_readReads_79 ca_X10_turnReads ci_X10_turnReads cs_X10_turnReads ml_6_199 (by decide) (isO_lay g19) rfl rfl (m_X10_turnReads _ _ _ _ _ (isO_lay g19) hc) rfl rfl (Nat.le_of_ble_eq_true rfl) rfl rfl ?_
  refine J_aload_n (pc := 82) X (j := 0) (i := 0) rfl rfl dX6_readReads_82 ?_
  refine J_getF (pc := 83) X (b := 5) ly4 fl_6_12 rfl dX6_readReads_83 ?_
  obtain ⟨h21, hc, hq⟩ := bnv_e hq
  refine J_callV (pc := 86) (as := []) (st := []) (st2 := []) (r1 := (none, h21)) (h2 := h21) (ky := 2) X dX6_readReads_86 ca_X9_advance ci_X9_advance cs_X9_advance ml_6_71 (by decide) ly5 rfl rfl (m_X9_advance _ _ hc) rfl rfl (Nat.le_of_ble_eq_true rfl) rfl rfl ?_
  refine J_iconst (pc := 89) X (v := 0) (by decide) dX6_readReads_89 ?_
  refine J_istore_n (pc := 90) X (L' := [(3, .inl 0), (0, .inr (.inr 4)), (1, .inl x1), (2, .inl x2)]) (i := 3) rfl (by decide) rfl dX6_readReads_90 ?_
  refine J_sub [1, 2, 3, 0] rfl ?_
  refine tL_X6_readReads_91 X _ _ _ _ N0 _ _ _ ?_ ?_ hq
  · intro h29 q hq
    refine J_iconst (pc := 113) X (v := 0) (by decide) dX6_readReads_113 ?_
    obtain rfl := Option.some.inj hq
    exact J_zret (pc := 114) X (by decide) dX6_readReads_114
  · intro h30 q hq
    exact tB_X6_readReads_121 X _ _ hq
theorem tf_X6_readReads {κ : Kx} (X : OK κ cX6_readReads 4 (some .boolean) "StruckWords$Reader" 4) (h : Hp) (q : (Int32 × Hp)) (hq : f_X6_readReads h = some q) : J κ 0 [(0, .inr (.inr 4))] [] h (some (.inl q.1), q.2) := by
  delta f_X6_readReads at hq
  refine J_aload_n (pc := 0) X (j := 0) (i := 0) rfl rfl dX6_readReads_0 ?_
  refine J_getF (pc := 1) X (b := 5) ly4 fl_6_12 rfl dX6_readReads_1 ?_
  obtain ⟨h1, hc, hq⟩ := bnv_e hq
  refine J_callV (pc := 4) (as := []) (st := []) (st2 := []) (r1 := (none, h1)) (h2 := h1) (ky := 2) X dX6_readReads_4 ca_X9_advance ci_X9_advance cs_X9_advance ml_6_71 (by decide) ly5 rfl rfl (m_X9_advance _ _ hc) rfl rfl (Nat.le_of_ble_eq_true rfl) rfl rfl ?_
  refine J_aload_n (pc := 7) X (j := 0) (i := 0) rfl rfl dX6_readReads_7 ?_
  refine J_bipush (pc := 8) X (v := 8) (by decide) dX6_readReads_8 ?_
  refine J_aload_n (pc := 10) X (j := 0) (i := 0) rfl rfl dX6_readReads_10 ?_
  refine J_getR (pc := 11) X ly4 fl_6_74 dX6_readReads_11 ?_
  refine J_ltR hq (fun r2 hq => ?_)
  obtain ⟨g3, hq⟩ := gd hq
  refine J_getI (pc := 14) X (isO_lay g3) fl_6_60 dX6_readReads_14 ?_
  obtain ⟨v5, h4, hc, hq⟩ := bnd_e hq
  refine J_callV (pc := 17) (as := [.inl 8, .inl (h1.1 r2 2)]) (st := []) (st2 := [.inl v5]) (r1 := (some (.inl v5), h4)) (h2 := h4) (ky := 2) X dX6_readReads_17 ca_X6_toldHere ci_X6_toldHere cs_X6_toldHere ml_6_63 (by decide) ly4 rfl rfl (m_X6_toldHere _ _ _ _ hc) rfl rfl (Nat.le_of_ble_eq_true rfl) rfl rfl ?_
  refine J_istore_n (pc := 20) X (L' := [(1, .inl v5), (0, .inr (.inr 4))]) (i := 1) rfl (by decide) rfl dX6_readReads_20 ?_
  refine J_iload_n (pc := 21) X (j := 0) (i := 1) rfl rfl dX6_readReads_21 ?_
  refine J_if_ge (pc := 22) (tgt := 27) X dX6_readReads_22 rfl (fun c6 => ?_) (fun c6 => ?_)
  · have hq := ite_t hq c6
    refine J_aload_n (pc := 27) X (j := 1) (i := 0) rfl rfl dX6_readReads_27 ?_
    refine J_getF (pc := 28) X (b := 5) ly4 fl_6_12 rfl dX6_readReads_28 ?_
    obtain ⟨h7, hc, hq⟩ := bnv_e hq
    refine J_callV (pc := 31) (as := []) (st := []) (st2 := []) (r1 := (none, h7)) (h2 := h7) (ky := 2) X dX6_readReads_31 ca_X9_advance ci_X9_advance cs_X9_advance ml_6_71 (by decide) ly5 rfl rfl (m_X9_advance _ _ hc) rfl rfl (Nat.le_of_ble_eq_true rfl) rfl rfl ?_
    refine J_aload_n (pc := 34) X (j := 1) (i := 0) rfl rfl dX6_readReads_34 ?_
    refine J_iconst (pc := 35) X (v := 0) (by decide) dX6_readReads_35 ?_
    refine J_aload_n (pc := 36) X (j := 1) (i := 0) rfl rfl dX6_readReads_36 ?_
    refine J_getR (pc := 37) X ly4 fl_6_74 dX6_readReads_37 ?_
    refine J_ltR hq (fun r8 hq => ?_)
    obtain ⟨g9, hq⟩ := gd hq
    refine J_getI (pc := 40) X (isO_lay g9) fl_6_127 dX6_readReads_40 ?_
    obtain ⟨v11, h10, hc, hq⟩ := bnd_e hq
    refine J_callV (pc := 43) (as := [.inl 0, .inl (h7.1 r8 0)]) (st := []) (st2 := [.inl v11]) (r1 := (some (.inl v11), h10)) (h2 := h10) (ky := 2) X dX6_readReads_43 ca_X6_toldHere ci_X6_toldHere cs_X6_toldHere ml_6_63 (by decide) ly4 rfl rfl (m_X6_toldHere _ _ _ _ hc) rfl rfl (Nat.le_of_ble_eq_true rfl) rfl rfl ?_
    refine J_istore_n (pc := 46) X (L' := [(2, .inl v11), (1, .inl v5), (0, .inr (.inr 4))]) (i := 2) rfl (by decide) rfl dX6_readReads_46 ?_
    refine J_iload_n (pc := 47) X (j := 0) (i := 2) rfl rfl dX6_readReads_47 ?_
    refine J_if_lt (pc := 48) (tgt := 71) X dX6_readReads_48 rfl (fun c12 => ?_) (fun c12 => ?_)
    · have hq := ite_t hq c12
      refine J_iconst (pc := 71) X (v := 0) (by decide) dX6_readReads_71 ?_
      obtain rfl := Option.some.inj hq
      exact J_zret (pc := 72) X (by decide) dX6_readReads_72
    · have hq := ite_f hq c12
      refine J_aload_n (pc := 51) X (j := 2) (i := 0) rfl rfl dX6_readReads_51 ?_
      refine J_getR (pc := 52) X ly4 fl_6_74 dX6_readReads_52 ?_
      refine J_ltR hq (fun r13 hq => ?_)
      obtain ⟨g14, hq⟩ := gd hq
      refine J_iload_n (pc := 55) X (j := 1) (i := 1) rfl rfl dX6_readReads_55 ?_
      refine J_iload_n (pc := 56) X (j := 0) (i := 2) rfl rfl dX6_readReads_56 ?_
      obtain ⟨v16, h15, hc, hq⟩ := bnd_e hq
      refine J_callV (pc := 57) (as := [.inl v5, .inl v11]) (st := []) (st2 := [.inl v16]) (r1 := (some (.inl v16), h15)) (h2 := h15) (ky := 1) X dX6_readReads_57 ca_X10_readsAs ci_X10_readsAs cs_X10_readsAs ml_6_196 (by decide) (isO_lay g14) rfl rfl (m_X10_readsAs _ _ _ _ _ (isO_lay g14) hc) rfl rfl (Nat.le_of_ble_eq_true rfl) rfl rfl ?_
      refine J_if_eq (pc := 60) (tgt := 73) X dX6_readReads_60 rfl (fun c17 => ?_) (fun c17 => ?_)
      · have hq := ite_t hq c17
        refine J_sub [2, 1, 0] rfl ?_
        exact tB_X6_readReads_73 X _ _ _ _ hq
      · have hq := ite_f hq c17
        refine J_aload_n (pc := 63) X (j := 2) (i := 0) rfl rfl dX6_readReads_63 ?_
        refine J_iconst (pc := 64) X (v := 3) (by decide) dX6_readReads_64 ?_
        obtain ⟨v38, h37, hc, hq⟩ := bnd_e hq
        refine J_callV (pc := 65) (as := [.inl 3]) (st := []) (st2 := [.inl v38]) (r1 := (some (.inl v38), h37)) (h2 := h37) (ky := 1) X dX6_readReads_65 ca_X6_refuse ci_X6_refuse cs_X6_refuse ml_6_48 (by decide) ly4 rfl rfl (m_X6_refuse _ _ _ hc) rfl rfl (Nat.le_of_ble_eq_true rfl) rfl rfl ?_
        refine J_if_ne (pc := 68) (tgt := 73) X dX6_readReads_68 rfl (fun c39 => ?_) (fun c39 => ?_)
        · have hq := ite_f hq c39
          refine J_sub [2, 1, 0] rfl ?_
          exact tB_X6_readReads_73 X _ _ _ _ hq
        · have hq := ite_t hq c39
          refine J_iconst (pc := 71) X (v := 0) (by decide) dX6_readReads_71 ?_
          obtain rfl := Option.some.inj hq
          exact J_zret (pc := 72) X (by decide) dX6_readReads_72
  · have hq := ite_f hq c6
    refine J_iconst (pc := 25) X (v := 0) (by decide) dX6_readReads_25 ?_
    obtain rfl := Option.some.inj hq
    exact J_zret (pc := 26) X (by decide) dX6_readReads_26
theorem m_X6_readReads (h : Hp) (q : (Int32 × Hp)) (hq : f_X6_readReads  h = some q) : ∀ l w, CT l w yX6_readReads cX6_readReads 4 (some .boolean) 4 [.inr (.inr 4)] h (some (.inl q.1), q.2) :=
  CT_of (L0 := [(0, .inr (.inr 4))]) (by decide) rfl (Nat.le_of_ble_eq_true rfl) (fun κ X => tf_X6_readReads X  h q  hq)
theorem tf_X6_isBeginsOrEnds {κ : Kx} (X : OK κ cX6_isBeginsOrEnds 1 (some .boolean) "StruckWords$Reader" 1) (h : Hp) (q : (Int32 × Hp)) (hq : f_X6_isBeginsOrEnds h = some q) : J κ 0 [(0, .inr (.inr 4))] [] h (some (.inl q.1), q.2) := by
  delta f_X6_isBeginsOrEnds at hq
  refine J_aload_n (pc := 0) X (j := 0) (i := 0) rfl rfl dX6_isBeginsOrEnds_0 ?_
  refine J_getF (pc := 1) X (b := 5) ly4 fl_6_12 rfl dX6_isBeginsOrEnds_1 ?_
  refine J_getR (pc := 4) X ly5 fl_6_87 dX6_isBeginsOrEnds_4 ?_
  refine J_ltR hq (fun r1 hq => ?_)
  obtain ⟨g2, hq⟩ := gd hq
  refine J_getK (pc := 7) X (i := 1) (by decide) kf_6_136 dX6_isBeginsOrEnds_7 ?_
  refine J_acmp_eq (pc := 10) (tgt := 26) X g2 (show isKw 301 = true from rfl) dX6_isBeginsOrEnds_10 rfl (fun c3 => ?_) (fun c3 => ?_)
  · have hq := ite_t hq c3
    refine J_iconst (pc := 26) X (v := 1) (by decide) dX6_isBeginsOrEnds_26 ?_
    refine J_goto (pc := 27) X (tgt := 31) dX6_isBeginsOrEnds_27 rfl ?_
    obtain rfl := Option.some.inj hq
    exact J_zret (pc := 31) X (by decide) dX6_isBeginsOrEnds_31
  · have hq := ite_f hq c3
    refine J_aload_n (pc := 13) X (j := 0) (i := 0) rfl rfl dX6_isBeginsOrEnds_13 ?_
    refine J_getF (pc := 14) X (b := 5) ly4 fl_6_12 rfl dX6_isBeginsOrEnds_14 ?_
    refine J_getR (pc := 17) X ly5 fl_6_87 dX6_isBeginsOrEnds_17 ?_
    refine J_ltR hq (fun r4 hq => ?_)
    obtain ⟨g5, hq⟩ := gd hq
    refine J_getK (pc := 20) X (i := 2) (by decide) kf_6_151 dX6_isBeginsOrEnds_20 ?_
    refine J_acmp_ne (pc := 23) (tgt := 30) X g5 (show isKw 302 = true from rfl) dX6_isBeginsOrEnds_23 rfl (fun c6 => ?_) (fun c6 => ?_)
    · have hq := ite_f hq c6
      refine J_iconst (pc := 30) X (v := 0) (by decide) dX6_isBeginsOrEnds_30 ?_
      obtain rfl := Option.some.inj hq
      exact J_zret (pc := 31) X (by decide) dX6_isBeginsOrEnds_31
    · have hq := ite_t hq c6
      refine J_iconst (pc := 26) X (v := 1) (by decide) dX6_isBeginsOrEnds_26 ?_
      refine J_goto (pc := 27) X (tgt := 31) dX6_isBeginsOrEnds_27 rfl ?_
      obtain rfl := Option.some.inj hq
      exact J_zret (pc := 31) X (by decide) dX6_isBeginsOrEnds_31
theorem m_X6_isBeginsOrEnds (h : Hp) (q : (Int32 × Hp)) (hq : f_X6_isBeginsOrEnds  h = some q) : ∀ l w, CT l w yX6_isBeginsOrEnds cX6_isBeginsOrEnds 1 (some .boolean) 1 [.inr (.inr 4)] h (some (.inl q.1), q.2) :=
  CT_of (L0 := [(0, .inr (.inr 4))]) (by decide) rfl (Nat.le_of_ble_eq_true rfl) (fun κ X => tf_X6_isBeginsOrEnds X  h q  hq)
theorem tB_X6_readSort_126 {κ : Kx} (X : OK κ cX6_readSort 6 (some .boolean) "StruckWords$Reader" 4) (x1 : Int32) (k97 : Hp → Option (Int32 × Hp)) (k104 : Hp → Option (Int32 × Hp)) (k141 : Int32 → Int32 → Hp → Option (Int32 × Hp)) (self : Int32 → Int32 → Int32 → Hp → Option (Int32 × Hp)) (x2 : Int32) (x4 : Int32) (t0 : Int32) (t1 : Int32) (h : Hp) (q : (Int32 × Hp)) (hk97 : ∀ (h : Hp) (q : (Int32 × Hp)), k97 h = some q → J κ 97 [(0, .inr (.inr 4))] [] h (some (.inl q.1), q.2)) (hk104 : ∀ (h : Hp) (q : (Int32 × Hp)), k104 h = some q → J κ 104 [(0, .inr (.inr 4))] [] h (some (.inl q.1), q.2)) (hk141 : ∀ (x2 : Int32) (x3 : Int32) (h : Hp) (q : (Int32 × Hp)), k141 x2 x3 h = some q → J κ 141 [(0, .inr (.inr 4)), (1, .inl x1), (2, .inl x2), (3, .inl x3)] [] h (some (.inl q.1), q.2)) (hself : ∀ (x2 : Int32) (x3 : Int32) (x4 : Int32) (h : Hp) (q : (Int32 × Hp)), self x2 x3 x4 h = some q → J κ 55 [(0, .inr (.inr 4)), (1, .inl x1), (2, .inl x2), (3, .inl x3), (4, .inl x4)] [] h (some (.inl q.1), q.2)) (hq : B_X6_readSort_126 x1 k97 k104 k141 self x2 x4 t0 t1 h = some q) : J κ 126 [(0, .inr (.inr 4)), (1, .inl x1), (2, .inl x2), (4, .inl x4)] [.inl t0, .inl t1] h (some (.inl q.1), q.2) := by
  delta B_X6_readSort_126 at hq
  refine J_ior (pc := 126) X dX6_readSort_126 ?_
  refine J_ltI hq (fun v24 hq => ?_)
  refine J_istore_n (pc := 127) X (L' := [(3, .inl v24), (0, .inr (.inr 4)), (1, .inl x1), (2, .inl x2), (4, .inl x4)]) (i := 3) rfl (by decide) rfl dX6_readSort_127 ?_
  refine J_aload_n (pc := 128) X (j := 1) (i := 0) rfl rfl dX6_readSort_128 ?_
  refine J_getF (pc := 129) X (b := 5) ly4 fl_6_12 rfl dX6_readSort_129 ?_
  obtain ⟨h25, hc, hq⟩ := bnv_e hq
  refine J_callV (pc := 132) (as := []) (st := []) (st2 := []) (r1 := (none, h25)) (h2 := h25) (ky := 2) X dX6_readSort_132 ca_X9_advance ci_X9_advance cs_X9_advance ml_6_71 (by decide) ly5 rfl rfl (m_X9_advance _ _ hc) rfl rfl (Nat.le_of_ble_eq_true rfl) rfl rfl ?_
  refine J_iinc (pc := 135) X (j := 4) (v := 1) (L' := [(4, .inl (x4 + 1)), (3, .inl v24), (0, .inr (.inr 4)), (1, .inl x1), (2, .inl x2)]) rfl (by decide) (by decide) rfl dX6_readSort_135 ?_
  refine J_goto (pc := 138) X (tgt := 55) dX6_readSort_138 rfl ?_
  refine J_sub [2, 3, 4, 1, 0] rfl ?_
  exact hself _ _ _ _ _ hq
theorem tB_X6_readSort_110 {κ : Kx} (X : OK κ cX6_readSort 6 (some .boolean) "StruckWords$Reader" 4) (x1 : Int32) (k97 : Hp → Option (Int32 × Hp)) (k104 : Hp → Option (Int32 × Hp)) (k141 : Int32 → Int32 → Hp → Option (Int32 × Hp)) (self : Int32 → Int32 → Int32 → Hp → Option (Int32 × Hp)) (x2 : Int32) (x3 : Int32) (x4 : Int32) (x5 : Int32) (h : Hp) (q : (Int32 × Hp)) (hk97 : ∀ (h : Hp) (q : (Int32 × Hp)), k97 h = some q → J κ 97 [(0, .inr (.inr 4))] [] h (some (.inl q.1), q.2)) (hk104 : ∀ (h : Hp) (q : (Int32 × Hp)), k104 h = some q → J κ 104 [(0, .inr (.inr 4))] [] h (some (.inl q.1), q.2)) (hk141 : ∀ (x2 : Int32) (x3 : Int32) (h : Hp) (q : (Int32 × Hp)), k141 x2 x3 h = some q → J κ 141 [(0, .inr (.inr 4)), (1, .inl x1), (2, .inl x2), (3, .inl x3)] [] h (some (.inl q.1), q.2)) (hself : ∀ (x2 : Int32) (x3 : Int32) (x4 : Int32) (h : Hp) (q : (Int32 × Hp)), self x2 x3 x4 h = some q → J κ 55 [(0, .inr (.inr 4)), (1, .inl x1), (2, .inl x2), (3, .inl x3), (4, .inl x4)] [] h (some (.inl q.1), q.2)) (hq : B_X6_readSort_110 x1 k97 k104 k141 self x2 x3 x4 x5 h = some q) : J κ 110 [(0, .inr (.inr 4)), (1, .inl x1), (2, .inl x2), (3, .inl x3), (4, .inl x4), (5, .inl x5)] [] h (some (.inl q.1), q.2) := by
  delta B_X6_readSort_110 at hq
  refine J_iload_n (pc := 110) X (j := 2) (i := 2) rfl rfl dX6_readSort_110 ?_
  refine J_iload (pc := 111) X (j := 5) rfl dX6_readSort_111 ?_
  refine J_ior (pc := 113) X dX6_readSort_113 ?_
  refine J_ltI hq (fun v22 hq => ?_)
  refine J_istore_n (pc := 114) X (L' := [(2, .inl v22), (0, .inr (.inr 4)), (1, .inl x1), (3, .inl x3), (4, .inl x4), (5, .inl x5)]) (i := 2) rfl (by decide) rfl dX6_readSort_114 ?_
  refine J_iload_n (pc := 115) X (j := 3) (i := 3) rfl rfl dX6_readSort_115 ?_
  refine J_iload (pc := 116) X (j := 5) rfl dX6_readSort_116 ?_
  refine J_if_ne (pc := 118) (tgt := 125) X dX6_readSort_118 rfl (fun c23 => ?_) (fun c23 => ?_)
  · have hq := ite_f hq c23
    refine J_iconst (pc := 125) X (v := 0) (by decide) dX6_readSort_125 ?_
    refine J_sub [1, 2, 0, 4] rfl ?_
    exact tB_X6_readSort_126 X _ _ _ _ _ _ _ _ _ _ _ hk97 hk104 hk141 hself hq
  · have hq := ite_t hq c23
    refine J_iconst (pc := 121) X (v := 1) (by decide) dX6_readSort_121 ?_
    refine J_goto (pc := 122) X (tgt := 126) dX6_readSort_122 rfl ?_
    refine J_sub [1, 2, 0, 4] rfl ?_
    exact tB_X6_readSort_126 X _ _ _ _ _ _ _ _ _ _ _ hk97 hk104 hk141 hself hq
theorem tB_X6_readSort_86 {κ : Kx} (X : OK κ cX6_readSort 6 (some .boolean) "StruckWords$Reader" 4) (x1 : Int32) (k97 : Hp → Option (Int32 × Hp)) (k104 : Hp → Option (Int32 × Hp)) (k141 : Int32 → Int32 → Hp → Option (Int32 × Hp)) (self : Int32 → Int32 → Int32 → Hp → Option (Int32 × Hp)) (x2 : Int32) (x3 : Int32) (x4 : Int32) (t0 : Int32) (h : Hp) (q : (Int32 × Hp)) (hk97 : ∀ (h : Hp) (q : (Int32 × Hp)), k97 h = some q → J κ 97 [(0, .inr (.inr 4))] [] h (some (.inl q.1), q.2)) (hk104 : ∀ (h : Hp) (q : (Int32 × Hp)), k104 h = some q → J κ 104 [(0, .inr (.inr 4))] [] h (some (.inl q.1), q.2)) (hk141 : ∀ (x2 : Int32) (x3 : Int32) (h : Hp) (q : (Int32 × Hp)), k141 x2 x3 h = some q → J κ 141 [(0, .inr (.inr 4)), (1, .inl x1), (2, .inl x2), (3, .inl x3)] [] h (some (.inl q.1), q.2)) (hself : ∀ (x2 : Int32) (x3 : Int32) (x4 : Int32) (h : Hp) (q : (Int32 × Hp)), self x2 x3 x4 h = some q → J κ 55 [(0, .inr (.inr 4)), (1, .inl x1), (2, .inl x2), (3, .inl x3), (4, .inl x4)] [] h (some (.inl q.1), q.2)) (hq : B_X6_readSort_86 x1 k97 k104 k141 self x2 x3 x4 t0 h = some q) : J κ 86 [(0, .inr (.inr 4)), (1, .inl x1), (2, .inl x2), (3, .inl x3), (4, .inl x4)] [.inl t0] h (some (.inl q.1), q.2) := by
  delta B_X6_readSort_86 at hq
  refine J_istore (pc := 86) X (L' := [(5, .inl t0), (0, .inr (.inr 4)), (1, .inl x1), (2, .inl x2), (3, .inl x3), (4, .inl x4)]) (by decide) rfl dX6_readSort_86 ?_
  refine J_iload (pc := 88) X (j := 0) rfl dX6_readSort_88 ?_
  refine J_if_eq (pc := 90) (tgt := 100) X dX6_readSort_90 rfl (fun c20 => ?_) (fun c20 => ?_)
  · have hq := ite_t hq c20
    refine J_iload_n (pc := 100) X (j := 4) (i := 3) rfl rfl dX6_readSort_100 ?_
    refine J_if_eq (pc := 101) (tgt := 110) X dX6_readSort_101 rfl (fun c21 => ?_) (fun c21 => ?_)
    · have hq := ite_t hq c21
      refine J_sub [1, 2, 3, 4, 5, 0] rfl ?_
      exact tB_X6_readSort_110 X _ _ _ _ _ _ _ _ _ _ _ hk97 hk104 hk141 hself hq
    · have hq := ite_f hq c21
      refine J_sub [1] rfl ?_
      exact hk104 _ _ hq
  · have hq := ite_f hq c20
    refine J_iload_n (pc := 93) X (j := 3) (i := 2) rfl rfl dX6_readSort_93 ?_
    refine J_if_eq (pc := 94) (tgt := 110) X dX6_readSort_94 rfl (fun c26 => ?_) (fun c26 => ?_)
    · have hq := ite_t hq c26
      refine J_sub [1, 2, 3, 4, 5, 0] rfl ?_
      exact tB_X6_readSort_110 X _ _ _ _ _ _ _ _ _ _ _ hk97 hk104 hk141 hself hq
    · have hq := ite_f hq c26
      refine J_sub [1] rfl ?_
      exact hk97 _ _ hq
theorem tF_X6_readSort_55 {κ : Kx} (X : OK κ cX6_readSort 6 (some .boolean) "StruckWords$Reader" 4) (x1 : Int32) (k97 : Hp → Option (Int32 × Hp)) (k104 : Hp → Option (Int32 × Hp)) (k141 : Int32 → Int32 → Hp → Option (Int32 × Hp)) (self : Int32 → Int32 → Int32 → Hp → Option (Int32 × Hp)) (x2 : Int32) (x3 : Int32) (x4 : Int32) (h : Hp) (q : (Int32 × Hp)) (hk97 : ∀ (h : Hp) (q : (Int32 × Hp)), k97 h = some q → J κ 97 [(0, .inr (.inr 4))] [] h (some (.inl q.1), q.2)) (hk104 : ∀ (h : Hp) (q : (Int32 × Hp)), k104 h = some q → J κ 104 [(0, .inr (.inr 4))] [] h (some (.inl q.1), q.2)) (hk141 : ∀ (x2 : Int32) (x3 : Int32) (h : Hp) (q : (Int32 × Hp)), k141 x2 x3 h = some q → J κ 141 [(0, .inr (.inr 4)), (1, .inl x1), (2, .inl x2), (3, .inl x3)] [] h (some (.inl q.1), q.2)) (hself : ∀ (x2 : Int32) (x3 : Int32) (x4 : Int32) (h : Hp) (q : (Int32 × Hp)), self x2 x3 x4 h = some q → J κ 55 [(0, .inr (.inr 4)), (1, .inl x1), (2, .inl x2), (3, .inl x3), (4, .inl x4)] [] h (some (.inl q.1), q.2)) (hq : F_X6_readSort_55 x1 k97 k104 k141 self x2 x3 x4 h = some q) : J κ 55 [(0, .inr (.inr 4)), (1, .inl x1), (2, .inl x2), (3, .inl x3), (4, .inl x4)] [] h (some (.inl q.1), q.2) := by
  delta F_X6_readSort_55 at hq
  refine J_iload (pc := 55) X (j := 4) rfl dX6_readSort_55 ?_
  refine J_iconst (pc := 57) X (v := 2) (by decide) dX6_readSort_57 ?_
  refine J_icmp_ge (pc := 58) (tgt := 141) X dX6_readSort_58 rfl (fun c13 => ?_) (fun c13 => ?_)
  · have hq := ite_t hq c13
    refine J_sub [0, 1, 2, 3] rfl ?_
    exact hk141 _ _ _ _ hq
  · have hq := ite_f hq c13
    refine J_aload_n (pc := 61) X (j := 0) (i := 0) rfl rfl dX6_readSort_61 ?_
    obtain ⟨v15, h14, hc, hq⟩ := bnd_e hq
    refine J_callV (pc := 62) (as := []) (st := []) (st2 := [.inl v15]) (r1 := (some (.inl v15), h14)) (h2 := h14) (ky := 1) X dX6_readSort_62 ca_X6_isBeginsOrEnds ci_X6_isBeginsOrEnds cs_X6_isBeginsOrEnds ml_6_133 (by decide) ly4 rfl rfl (m_X6_isBeginsOrEnds _ _ hc) rfl rfl (Nat.le_of_ble_eq_true rfl) rfl rfl ?_
    refine J_if_eq (pc := 65) (tgt := 141) X dX6_readSort_65 rfl (fun c16 => ?_) (fun c16 => ?_)
    · have hq := ite_t hq c16
      refine J_sub [0, 1, 2, 3] rfl ?_
      exact hk141 _ _ _ _ hq
    · have hq := ite_f hq c16
      refine J_aload_n (pc := 68) X (j := 0) (i := 0) rfl rfl dX6_readSort_68 ?_
      refine J_getF (pc := 69) X (b := 5) ly4 fl_6_12 rfl dX6_readSort_69 ?_
      refine J_getR (pc := 72) X ly5 fl_6_87 dX6_readSort_72 ?_
      refine J_ltR hq (fun r17 hq => ?_)
      obtain ⟨g18, hq⟩ := gd hq
      refine J_getK (pc := 75) X (i := 1) (by decide) kf_6_136 dX6_readSort_75 ?_
      refine J_acmp_ne (pc := 78) (tgt := 85) X g18 (show isKw 301 = true from rfl) dX6_readSort_78 rfl (fun c19 => ?_) (fun c19 => ?_)
      · have hq := ite_f hq c19
        refine J_iconst (pc := 85) X (v := 0) (by decide) dX6_readSort_85 ?_
        exact tB_X6_readSort_86 X _ _ _ _ _ _ _ _ _ _ _ hk97 hk104 hk141 hself hq
      · have hq := ite_t hq c19
        refine J_iconst (pc := 81) X (v := 1) (by decide) dX6_readSort_81 ?_
        refine J_goto (pc := 82) X (tgt := 86) dX6_readSort_82 rfl ?_
        exact tB_X6_readSort_86 X _ _ _ _ _ _ _ _ _ _ _ hk97 hk104 hk141 hself hq
theorem tL_X6_readSort_55 {κ : Kx} (X : OK κ cX6_readSort 6 (some .boolean) "StruckWords$Reader" 4) (x1 : Int32) (k97 : Hp → Option (Int32 × Hp)) (k104 : Hp → Option (Int32 × Hp)) (k141 : Int32 → Int32 → Hp → Option (Int32 × Hp)) (N : Nat) (x2 : Int32) (x3 : Int32) (x4 : Int32) (h : Hp) (q : (Int32 × Hp)) (hk97 : ∀ (h : Hp) (q : (Int32 × Hp)), k97 h = some q → J κ 97 [(0, .inr (.inr 4))] [] h (some (.inl q.1), q.2)) (hk104 : ∀ (h : Hp) (q : (Int32 × Hp)), k104 h = some q → J κ 104 [(0, .inr (.inr 4))] [] h (some (.inl q.1), q.2)) (hk141 : ∀ (x2 : Int32) (x3 : Int32) (h : Hp) (q : (Int32 × Hp)), k141 x2 x3 h = some q → J κ 141 [(0, .inr (.inr 4)), (1, .inl x1), (2, .inl x2), (3, .inl x3)] [] h (some (.inl q.1), q.2)) (hq : itr4 (F_X6_readSort_55 x1 k97 k104 k141) N x2 x3 x4 h = some q) : J κ 55 [(0, .inr (.inr 4)), (1, .inl x1), (2, .inl x2), (3, .inl x3), (4, .inl x4)] [] h (some (.inl q.1), q.2) :=
  itr4_ind (fun self hs x2 x3 x4 h q hq => tF_X6_readSort_55 X x1 k97 k104 k141 self x2 x3 x4 h q hk97 hk104 hk141 hs hq) N x2 x3 x4 h q hq
theorem tB_X6_readSort_104 {κ : Kx} (X : OK κ cX6_readSort 6 (some .boolean) "StruckWords$Reader" 4) (h : Hp) (q : (Int32 × Hp)) (hq : B_X6_readSort_104 h = some q) : J κ 104 [(0, .inr (.inr 4))] [] h (some (.inl q.1), q.2) := by
  delta B_X6_readSort_104 at hq
  refine J_aload_n (pc := 104) X (j := 0) (i := 0) rfl rfl dX6_readSort_104 ?_
  refine J_iconst (pc := 105) X (v := 3) (by decide) dX6_readSort_105 ?_
  obtain ⟨v29, h28, hc, hq⟩ := bnd_e hq
  refine J_callV (pc := 106) (as := [.inl 3]) (st := []) (st2 := [.inl v29]) (r1 := (some (.inl v29), h28)) (h2 := h28) (ky := 1) X dX6_readSort_106 ca_X6_refuse ci_X6_refuse cs_X6_refuse ml_6_48 (by decide) ly4 rfl rfl (m_X6_refuse _ _ _ hc) rfl rfl (Nat.le_of_ble_eq_true rfl) rfl rfl ?_
  obtain ⟨g30, hq⟩ := gd hq
  obtain rfl := Option.some.inj hq
  exact J_zret (pc := 109) X g30 dX6_readSort_109
theorem tB_X6_readSort_188 {κ : Kx} (X : OK κ cX6_readSort 6 (some .boolean) "StruckWords$Reader" 4) (t0 : Int64) (t1 : Int64) (t2 : Nat) (h : Hp) (q : (Int32 × Hp)) (lt2 : lay t2 = some (.inl 8)) (hq : B_X6_readSort_188 t0 t1 t2 h = some q) : J κ 188 [(0, .inr (.inr 4))] [.inr (.inl t0), .inr (.inl t1), .inr (.inr t2)] h (some (.inl q.1), q.2) := by
  delta B_X6_readSort_188 at hq
  refine J_lor (pc := 188) X dX6_readSort_188 ?_
  refine J_putL (pc := 189) X lt2 fp_6_145 dX6_readSort_189 ?_
  refine J_ltH hq (fun h44 hq => ?_)
  refine J_aload_n (pc := 192) X (j := 0) (i := 0) rfl rfl dX6_readSort_192 ?_
  obtain ⟨v46, h45, hc, hq⟩ := bnd_e hq
  refine J_callV (pc := 193) (as := []) (st := []) (st2 := [.inl v46]) (r1 := (some (.inl v46), h45)) (h2 := h45) (ky := 1) X dX6_readSort_193 ca_X6_isBeginsOrEnds ci_X6_isBeginsOrEnds cs_X6_isBeginsOrEnds ml_6_133 (by decide) ly4 rfl rfl (m_X6_isBeginsOrEnds _ _ hc) rfl rfl (Nat.le_of_ble_eq_true rfl) rfl rfl ?_
  refine J_if_eq (pc := 196) (tgt := 207) X dX6_readSort_196 rfl (fun c47 => ?_) (fun c47 => ?_)
  · have hq := ite_t hq c47
    refine J_iconst (pc := 207) X (v := 1) (by decide) dX6_readSort_207 ?_
    refine J_goto (pc := 208) X (tgt := 212) dX6_readSort_208 rfl ?_
    obtain rfl := Option.some.inj hq
    exact J_zret (pc := 212) X (by decide) dX6_readSort_212
  · have hq := ite_f hq c47
    refine J_aload_n (pc := 199) X (j := 0) (i := 0) rfl rfl dX6_readSort_199 ?_
    refine J_iconst (pc := 200) X (v := 3) (by decide) dX6_readSort_200 ?_
    obtain ⟨v49, h48, hc, hq⟩ := bnd_e hq
    refine J_callV (pc := 201) (as := [.inl 3]) (st := []) (st2 := [.inl v49]) (r1 := (some (.inl v49), h48)) (h2 := h48) (ky := 1) X dX6_readSort_201 ca_X6_refuse ci_X6_refuse cs_X6_refuse ml_6_48 (by decide) ly4 rfl rfl (m_X6_refuse _ _ _ hc) rfl rfl (Nat.le_of_ble_eq_true rfl) rfl rfl ?_
    refine J_if_eq (pc := 204) (tgt := 211) X dX6_readSort_204 rfl (fun c50 => ?_) (fun c50 => ?_)
    · have hq := ite_t hq c50
      refine J_iconst (pc := 211) X (v := 0) (by decide) dX6_readSort_211 ?_
      obtain rfl := Option.some.inj hq
      exact J_zret (pc := 212) X (by decide) dX6_readSort_212
    · have hq := ite_f hq c50
      refine J_iconst (pc := 207) X (v := 1) (by decide) dX6_readSort_207 ?_
      refine J_goto (pc := 208) X (tgt := 212) dX6_readSort_208 rfl ?_
      obtain rfl := Option.some.inj hq
      exact J_zret (pc := 212) X (by decide) dX6_readSort_212
theorem tB_X6_readSort_162 {κ : Kx} (X : OK κ cX6_readSort 6 (some .boolean) "StruckWords$Reader" 4) (x1 : Int32) (x3 : Int32) (t0 : Int64) (t1 : Int64) (t2 : Int32) (t3 : Nat) (h : Hp) (q : (Int32 × Hp)) (lt3 : lay t3 = some (.inr (1, 5))) (hq : B_X6_readSort_162 x1 x3 t0 t1 t2 t3 h = some q) : J κ 162 [(0, .inr (.inr 4)), (1, .inl x1), (3, .inl x3)] [.inr (.inl t0), .inr (.inl t1), .inl t2, .inr (.inr t3)] h (some (.inl q.1), q.2) := by
  delta B_X6_readSort_162 at hq
  refine J_lor (pc := 162) X dX6_readSort_162 ?_
  obtain ⟨g39, hq⟩ := gd hq
  refine J_lastore (pc := 163) X lt3 g39 dX6_readSort_163 ?_
  refine J_ltH hq (fun h40 hq => ?_)
  refine J_aload_n (pc := 164) X (j := 0) (i := 0) rfl rfl dX6_readSort_164 ?_
  refine J_getR (pc := 165) X ly4 fl_6_74 dX6_readSort_165 ?_
  refine J_ltR hq (fun r41 hq => ?_)
  obtain ⟨g42, hq⟩ := gd hq
  refine J_dup (pc := 168) X rfl dX6_readSort_168 ?_
  refine J_getL (pc := 169) X (isO_lay g42) fl_6_145 dX6_readSort_169 ?_
  refine J_iload_n (pc := 172) X (j := 2) (i := 3) rfl rfl dX6_readSort_172 ?_
  refine J_if_eq (pc := 173) (tgt := 187) X dX6_readSort_173 rfl (fun c43 => ?_) (fun c43 => ?_)
  · have hq := ite_t hq c43
    refine J_lconst (pc := 187) X (v := 0) (by decide) dX6_readSort_187 ?_
    refine J_sub [0] rfl ?_
    exact tB_X6_readSort_188 X _ _ _ _ _ (isO_lay g42) hq
  · have hq := ite_f hq c43
    refine J_ldc2 (pc := 176) X cl_6_149 dX6_readSort_176 ?_
    refine J_bipush (pc := 179) X (v := 8) (by decide) dX6_readSort_179 ?_
    refine J_iload_n (pc := 181) X (j := 1) (i := 1) rfl rfl dX6_readSort_181 ?_
    refine J_imul (pc := 182) X dX6_readSort_182 ?_
    refine J_lshl (pc := 183) X dX6_readSort_183 ?_
    refine J_goto (pc := 184) X (tgt := 188) dX6_readSort_184 rfl ?_
    refine J_sub [0] rfl ?_
    exact tB_X6_readSort_188 X _ _ _ _ _ (isO_lay g42) hq
theorem tB_X6_readSort_141 {κ : Kx} (X : OK κ cX6_readSort 6 (some .boolean) "StruckWords$Reader" 4) (x1 : Int32) (x2 : Int32) (x3 : Int32) (h : Hp) (q : (Int32 × Hp)) (hq : B_X6_readSort_141 x1 x2 x3 h = some q) : J κ 141 [(0, .inr (.inr 4)), (1, .inl x1), (2, .inl x2), (3, .inl x3)] [] h (some (.inl q.1), q.2) := by
  delta B_X6_readSort_141 at hq
  refine J_aload_n (pc := 141) X (j := 0) (i := 0) rfl rfl dX6_readSort_141 ?_
  refine J_getR (pc := 142) X ly4 fl_6_74 dX6_readSort_142 ?_
  refine J_ltR hq (fun r35 hq => ?_)
  obtain ⟨g36, hq⟩ := gd hq
  refine J_getF (pc := 145) X (b := r35 + 4) (isO_lay g36) fl_6_139 rfl dX6_readSort_145 ?_
  refine J_iload_n (pc := 148) X (j := 1) (i := 1) rfl rfl dX6_readSort_148 ?_
  refine J_dup2 (pc := 149) X rfl rfl dX6_readSort_149 ?_
  obtain ⟨g37, hq⟩ := gd hq
  refine J_laload (pc := 150) X (ly_8_4 (isO_lay g36)) g37 dX6_readSort_150 ?_
  refine J_iload_n (pc := 151) X (j := 2) (i := 2) rfl rfl dX6_readSort_151 ?_
  refine J_if_eq (pc := 152) (tgt := 161) X dX6_readSort_152 rfl (fun c38 => ?_) (fun c38 => ?_)
  · have hq := ite_t hq c38
    refine J_lconst (pc := 161) X (v := 0) (by decide) dX6_readSort_161 ?_
    refine J_sub [0, 1, 3] rfl ?_
    exact tB_X6_readSort_162 X _ _ _ _ _ _ _ _ (ly_8_4 (isO_lay g36)) hq
  · have hq := ite_f hq c38
    refine J_ldc2 (pc := 155) X cl_6_143 dX6_readSort_155 ?_
    refine J_goto (pc := 158) X (tgt := 162) dX6_readSort_158 rfl ?_
    refine J_sub [0, 1, 3] rfl ?_
    exact tB_X6_readSort_162 X _ _ _ _ _ _ _ _ (ly_8_4 (isO_lay g36)) hq
theorem tf_X6_readSort {κ : Kx} (X : OK κ cX6_readSort 6 (some .boolean) "StruckWords$Reader" 4) (h : Hp) (q : (Int32 × Hp)) (hq : f_X6_readSort h = some q) : J κ 0 [(0, .inr (.inr 4))] [] h (some (.inl q.1), q.2) := by
  delta f_X6_readSort at hq
  refine J_aload_n (pc := 0) X (j := 0) (i := 0) rfl rfl dX6_readSort_0 ?_
  refine J_getR (pc := 1) X ly4 fl_6_74 dX6_readSort_1 ?_
  refine J_ltR hq (fun r1 hq => ?_)
  obtain ⟨g2, hq⟩ := gd hq
  refine J_getI (pc := 4) X (isO_lay g2) fl_6_127 dX6_readSort_4 ?_
  refine J_iconst (pc := 7) X (v := 5) (by decide) dX6_readSort_7 ?_
  refine J_icmp_lt (pc := 8) (tgt := 17) X dX6_readSort_8 rfl (fun c3 => ?_) (fun c3 => ?_)
  · have hq := ite_t hq c3
    refine J_aload_n (pc := 17) X (j := 0) (i := 0) rfl rfl dX6_readSort_17 ?_
    refine J_getR (pc := 18) X ly4 fl_6_74 dX6_readSort_18 ?_
    refine J_ltR hq (fun r4 hq => ?_)
    obtain ⟨g5, hq⟩ := gd hq
    refine J_getI (pc := 21) X (isO_lay g5) fl_6_127 dX6_readSort_21 ?_
    refine J_ltI hq (fun v6 hq => ?_)
    refine J_istore_n (pc := 24) X (L' := [(1, .inl v6), (0, .inr (.inr 4))]) (i := 1) rfl (by decide) rfl dX6_readSort_24 ?_
    refine J_aload_n (pc := 25) X (j := 1) (i := 0) rfl rfl dX6_readSort_25 ?_
    refine J_iload_n (pc := 26) X (j := 0) (i := 1) rfl rfl dX6_readSort_26 ?_
    obtain ⟨v8, h7, hc, hq⟩ := bnd_e hq
    refine J_callV (pc := 27) (as := [.inl v6]) (st := []) (st2 := [.inl v8]) (r1 := (some (.inl v8), h7)) (h2 := h7) (ky := 3) X dX6_readSort_27 ca_X6_readNewName ci_X6_readNewName cs_X6_readNewName ml_6_130 (by decide) ly4 rfl rfl (m_X6_readNewName _ _ _ hc) rfl rfl (Nat.le_of_ble_eq_true rfl) rfl rfl ?_
    refine J_if_ne (pc := 30) (tgt := 35) X dX6_readSort_30 rfl (fun c9 => ?_) (fun c9 => ?_)
    · have hq := ite_f hq c9
      refine J_aload_n (pc := 35) X (j := 1) (i := 0) rfl rfl dX6_readSort_35 ?_
      refine J_getR (pc := 36) X ly4 fl_6_74 dX6_readSort_36 ?_
      refine J_ltR hq (fun r10 hq => ?_)
      obtain ⟨g11, hq⟩ := gd hq
      refine J_dup (pc := 39) X rfl dX6_readSort_39 ?_
      refine J_getI (pc := 40) X (isO_lay g11) fl_6_127 dX6_readSort_40 ?_
      refine J_iconst (pc := 43) X (v := 1) (by decide) dX6_readSort_43 ?_
      refine J_iadd (pc := 44) X dX6_readSort_44 ?_
      refine J_putI (pc := 45) X (isO_lay g11) fp_6_127 dX6_readSort_45 ?_
      refine J_ltH hq (fun h12 hq => ?_)
      refine J_iconst (pc := 48) X (v := 0) (by decide) dX6_readSort_48 ?_
      refine J_istore_n (pc := 49) X (L' := [(2, .inl 0), (1, .inl v6), (0, .inr (.inr 4))]) (i := 2) rfl (by decide) rfl dX6_readSort_49 ?_
      refine J_iconst (pc := 50) X (v := 0) (by decide) dX6_readSort_50 ?_
      refine J_istore_n (pc := 51) X (L' := [(3, .inl 0), (2, .inl 0), (1, .inl v6), (0, .inr (.inr 4))]) (i := 3) rfl (by decide) rfl dX6_readSort_51 ?_
      refine J_iconst (pc := 52) X (v := 0) (by decide) dX6_readSort_52 ?_
      refine J_istore (pc := 53) X (L' := [(4, .inl 0), (3, .inl 0), (2, .inl 0), (1, .inl v6), (0, .inr (.inr 4))]) (by decide) rfl dX6_readSort_53 ?_
      refine J_sub [4, 3, 2, 1, 0] rfl ?_
      refine tL_X6_readSort_55 X _ _ _ _ N0 _ _ _ _ _ ?_ ?_ ?_ hq
      · intro h27 q hq
        refine J_goto (pc := 97) X (tgt := 104) dX6_readSort_97 rfl ?_
        exact tB_X6_readSort_104 X _ _ hq
      · intro h31 q hq
        exact tB_X6_readSort_104 X _ _ hq
      · intro v33 v34 h32 q hq
        exact tB_X6_readSort_141 X _ _ _ _ _ hq
    · have hq := ite_t hq c9
      refine J_iconst (pc := 33) X (v := 0) (by decide) dX6_readSort_33 ?_
      obtain rfl := Option.some.inj hq
      exact J_zret (pc := 34) X (by decide) dX6_readSort_34
  · have hq := ite_f hq c3
    refine J_aload_n (pc := 11) X (j := 0) (i := 0) rfl rfl dX6_readSort_11 ?_
    refine J_iconst (pc := 12) X (v := 4) (by decide) dX6_readSort_12 ?_
    obtain ⟨v52, h51, hc, hq⟩ := bnd_e hq
    refine J_callV (pc := 13) (as := [.inl 4]) (st := []) (st2 := [.inl v52]) (r1 := (some (.inl v52), h51)) (h2 := h51) (ky := 1) X dX6_readSort_13 ca_X6_refuse ci_X6_refuse cs_X6_refuse ml_6_48 (by decide) ly4 rfl rfl (m_X6_refuse _ _ _ hc) rfl rfl (Nat.le_of_ble_eq_true rfl) rfl rfl ?_
    obtain ⟨g53, hq⟩ := gd hq
    obtain rfl := Option.some.inj hq
    exact J_zret (pc := 16) X g53 dX6_readSort_16
theorem m_X6_readSort (h : Hp) (q : (Int32 × Hp)) (hq : f_X6_readSort  h = some q) : ∀ l w, CT l w yX6_readSort cX6_readSort 6 (some .boolean) 4 [.inr (.inr 4)] h (some (.inl q.1), q.2) :=
  CT_of (L0 := [(0, .inr (.inr 4))]) (by decide) rfl (Nat.le_of_ble_eq_true rfl) (fun κ X => tf_X6_readSort X  h q  hq)
theorem tf_X6_readOption {κ : Kx} (X : OK κ cX6_readOption 7 (some .boolean) "StruckWords$Reader" 3) (x1 : Nat) (x2 : Nat) (x3 : Int32) (x4 : Int32) (h : Hp) (q : (Int32 × Hp)) (lx1 : isKw x1 = true) (lx2 : lay x2 = some (.inr (0, (aln x2)))) (hq : f_X6_readOption x1 x2 x3 x4 h = some q) : J κ 0 [(0, .inr (.inr 4)), (1, .inr (.inr x1)), (2, .inr (.inr x2)), (3, .inl x3), (4, .inl x4)] [] h (some (.inl q.1), q.2) := by
  delta f_X6_readOption at hq
  refine J_aload_n (pc := 0) X (j := 0) (i := 0) rfl rfl dX6_readOption_0 ?_
  refine J_getR (pc := 1) X ly4 fl_6_74 dX6_readOption_1 ?_
  refine J_ltR hq (fun r1 hq => ?_)
  obtain ⟨g2, hq⟩ := gd hq
  refine J_getI (pc := 4) X (isO_lay g2) fl_6_60 dX6_readOption_4 ?_
  refine J_iconst (pc := 7) X (v := 1) (by decide) dX6_readOption_7 ?_
  refine J_isub (pc := 8) X dX6_readOption_8 ?_
  refine J_ltI hq (fun v3 hq => ?_)
  refine J_istore (pc := 9) X (L' := [(5, .inl v3), (0, .inr (.inr 4)), (1, .inr (.inr x1)), (2, .inr (.inr x2)), (3, .inl x3), (4, .inl x4)]) (by decide) rfl dX6_readOption_9 ?_
  refine J_iload (pc := 11) X (j := 0) rfl dX6_readOption_11 ?_
  refine J_if_lt (pc := 13) (tgt := 23) X dX6_readOption_13 rfl (fun c4 => ?_) (fun c4 => ?_)
  · have hq := ite_t hq c4
    refine J_iconst (pc := 23) X (v := 0) (by decide) dX6_readOption_23 ?_
    obtain rfl := Option.some.inj hq
    exact J_zret (pc := 24) X (by decide) dX6_readOption_24
  · have hq := ite_f hq c4
    refine J_iload (pc := 16) X (j := 0) rfl dX6_readOption_16 ?_
    refine J_aload_n (pc := 18) X (j := 3) (i := 2) rfl rfl dX6_readOption_18 ?_
    refine J_alen (pc := 19) X (v := Int32.ofNat (aln x2)) lx2 (by decide) rfl dX6_readOption_19 ?_
    refine J_icmp_lt (pc := 20) (tgt := 25) X dX6_readOption_20 rfl (fun c5 => ?_) (fun c5 => ?_)
    · have hq := ite_t hq c5
      refine J_aload_n (pc := 25) X (j := 3) (i := 2) rfl rfl dX6_readOption_25 ?_
      refine J_iload (pc := 26) X (j := 0) rfl dX6_readOption_26 ?_
      refine J_iconst (pc := 28) X (v := 1) (by decide) dX6_readOption_28 ?_
      obtain ⟨g6, hq⟩ := gd hq
      refine J_iastore (pc := 29) X lx2 g6 dX6_readOption_29 ?_
      refine J_ltH hq (fun h7 hq => ?_)
      refine J_aload_n (pc := 30) X (j := 1) (i := 0) rfl rfl dX6_readOption_30 ?_
      refine J_getF (pc := 31) X (b := 5) ly4 fl_6_12 rfl dX6_readOption_31 ?_
      refine J_getR (pc := 34) X ly5 fl_6_87 dX6_readOption_34 ?_
      refine J_ltR hq (fun r8 hq => ?_)
      obtain ⟨g9, hq⟩ := gd hq
      refine J_aload_n (pc := 37) X (j := 2) (i := 1) rfl rfl dX6_readOption_37 ?_
      refine J_acmp_eq (pc := 38) (tgt := 43) X g9 lx1 dX6_readOption_38 rfl (fun c10 => ?_) (fun c10 => ?_)
      · have hq := ite_t hq c10
        refine J_aload_n (pc := 43) X (j := 1) (i := 0) rfl rfl dX6_readOption_43 ?_
        refine J_getF (pc := 44) X (b := 5) ly4 fl_6_12 rfl dX6_readOption_44 ?_
        obtain ⟨h11, hc, hq⟩ := bnv_e hq
        refine J_callV (pc := 47) (as := []) (st := []) (st2 := []) (r1 := (none, h11)) (h2 := h11) (ky := 2) X dX6_readOption_47 ca_X9_advance ci_X9_advance cs_X9_advance ml_6_71 (by decide) ly5 rfl rfl (m_X9_advance _ _ hc) rfl rfl (Nat.le_of_ble_eq_true rfl) rfl rfl ?_
        refine J_aload_n (pc := 50) X (j := 1) (i := 0) rfl rfl dX6_readOption_50 ?_
        refine J_iload_n (pc := 51) X (j := 4) (i := 3) rfl rfl dX6_readOption_51 ?_
        refine J_iload (pc := 52) X (j := 5) rfl dX6_readOption_52 ?_
        obtain ⟨v13, h12, hc, hq⟩ := bnd_e hq
        refine J_callV (pc := 54) (as := [.inl x3, .inl x4]) (st := []) (st2 := [.inl v13]) (r1 := (some (.inl v13), h12)) (h2 := h12) (ky := 2) X dX6_readOption_54 ca_X6_numberHere ci_X6_numberHere cs_X6_numberHere ml_6_193 (by decide) ly4 rfl rfl (m_X6_numberHere _ _ _ _ hc) rfl rfl (Nat.le_of_ble_eq_true rfl) rfl rfl ?_
        refine J_istore (pc := 57) X (L' := [(6, .inl v13), (5, .inl v3), (0, .inr (.inr 4)), (1, .inr (.inr x1)), (2, .inr (.inr x2)), (3, .inl x3), (4, .inl x4)]) (by decide) rfl dX6_readOption_57 ?_
        refine J_iload (pc := 59) X (j := 0) rfl dX6_readOption_59 ?_
        refine J_if_ge (pc := 61) (tgt := 66) X dX6_readOption_61 rfl (fun c14 => ?_) (fun c14 => ?_)
        · have hq := ite_t hq c14
          refine J_aload_n (pc := 66) X (j := 4) (i := 2) rfl rfl dX6_readOption_66 ?_
          refine J_iload (pc := 67) X (j := 1) rfl dX6_readOption_67 ?_
          refine J_iload (pc := 69) X (j := 0) rfl dX6_readOption_69 ?_
          obtain ⟨g15, hq⟩ := gd hq
          refine J_iastore (pc := 71) X lx2 g15 dX6_readOption_71 ?_
          refine J_ltH hq (fun h16 hq => ?_)
          refine J_aload_n (pc := 72) X (j := 2) (i := 0) rfl rfl dX6_readOption_72 ?_
          refine J_getF (pc := 73) X (b := 5) ly4 fl_6_12 rfl dX6_readOption_73 ?_
          obtain ⟨h17, hc, hq⟩ := bnv_e hq
          refine J_callV (pc := 76) (as := []) (st := []) (st2 := []) (r1 := (none, h17)) (h2 := h17) (ky := 2) X dX6_readOption_76 ca_X9_advance ci_X9_advance cs_X9_advance ml_6_71 (by decide) ly5 rfl rfl (m_X9_advance _ _ hc) rfl rfl (Nat.le_of_ble_eq_true rfl) rfl rfl ?_
          refine J_iconst (pc := 79) X (v := 1) (by decide) dX6_readOption_79 ?_
          obtain rfl := Option.some.inj hq
          exact J_zret (pc := 80) X (by decide) dX6_readOption_80
        · have hq := ite_f hq c14
          refine J_iconst (pc := 64) X (v := 0) (by decide) dX6_readOption_64 ?_
          obtain rfl := Option.some.inj hq
          exact J_zret (pc := 65) X (by decide) dX6_readOption_65
      · have hq := ite_f hq c10
        refine J_iconst (pc := 41) X (v := 1) (by decide) dX6_readOption_41 ?_
        obtain rfl := Option.some.inj hq
        exact J_zret (pc := 42) X (by decide) dX6_readOption_42
    · have hq := ite_f hq c5
      refine J_iconst (pc := 23) X (v := 0) (by decide) dX6_readOption_23 ?_
      obtain rfl := Option.some.inj hq
      exact J_zret (pc := 24) X (by decide) dX6_readOption_24
theorem m_X6_readOption (x1 : Nat) (x2 : Nat) (x3 : Int32) (x4 : Int32) (h : Hp) (q : (Int32 × Hp)) (lx1 : isKw x1 = true) (lx2 : lay x2 = some (.inr (0, (aln x2)))) (hq : f_X6_readOption x1 x2 x3 x4 h = some q) : ∀ l w, CT l w yX6_readOption cX6_readOption 7 (some .boolean) 3 [.inr (.inr 4), .inr (.inr x1), .inr (.inr x2), .inl x3, .inl x4] h (some (.inl q.1), q.2) :=
  CT_of (L0 := [(0, .inr (.inr 4)), (1, .inr (.inr x1)), (2, .inr (.inr x2)), (3, .inl x3), (4, .inl x4)]) (by decide) rfl (Nat.le_of_ble_eq_true rfl) (fun κ X => tf_X6_readOption X x1 x2 x3 x4 h q lx1 lx2 hq)
theorem tB_X6_readWord_117 {κ : Kx} (X : OK κ cX6_readWord 3 (some .boolean) "StruckWords$Reader" 4) (x1 : Int32) (t0 : Int32) (h : Hp) (q : (Int32 × Hp)) (hq : B_X6_readWord_117 x1 t0 h = some q) : J κ 117 [(0, .inr (.inr 4)), (1, .inl x1)] [.inl t0] h (some (.inl q.1), q.2) := by
  delta B_X6_readWord_117 at hq
  refine J_istore_n (pc := 117) X (L' := [(2, .inl t0), (0, .inr (.inr 4)), (1, .inl x1)]) (i := 2) rfl (by decide) rfl dX6_readWord_117 ?_
  refine J_iload_n (pc := 118) X (j := 0) (i := 2) rfl rfl dX6_readWord_118 ?_
  refine J_if_eq (pc := 119) (tgt := 157) X dX6_readWord_119 rfl (fun c18 => ?_) (fun c18 => ?_)
  · have hq := ite_t hq c18
    refine J_iload_n (pc := 157) X (j := 0) (i := 2) rfl rfl dX6_readWord_157 ?_
    obtain ⟨g19, hq⟩ := gd hq
    obtain rfl := Option.some.inj hq
    exact J_zret (pc := 158) X g19 dX6_readWord_158
  · have hq := ite_f hq c18
    refine J_aload_n (pc := 122) X (j := 1) (i := 0) rfl rfl dX6_readWord_122 ?_
    refine J_getF (pc := 123) X (b := 5) ly4 fl_6_12 rfl dX6_readWord_123 ?_
    refine J_getR (pc := 126) X ly5 fl_6_87 dX6_readWord_126 ?_
    refine J_ltR hq (fun r20 hq => ?_)
    obtain ⟨g21, hq⟩ := gd hq
    refine J_getK (pc := 129) X (i := 9) (by decide) kf_6_187 dX6_readWord_129 ?_
    refine J_acmp_ne (pc := 132) (tgt := 157) X g21 (show isKw 309 = true from rfl) dX6_readWord_132 rfl (fun c22 => ?_) (fun c22 => ?_)
    · have hq := ite_f hq c22
      refine J_iload_n (pc := 157) X (j := 0) (i := 2) rfl rfl dX6_readWord_157 ?_
      obtain ⟨g23, hq⟩ := gd hq
      obtain rfl := Option.some.inj hq
      exact J_zret (pc := 158) X g23 dX6_readWord_158
    · have hq := ite_t hq c22
      refine J_aload_n (pc := 135) X (j := 1) (i := 0) rfl rfl dX6_readWord_135 ?_
      refine J_getR (pc := 136) X ly4 fl_6_74 dX6_readWord_136 ?_
      refine J_ltR hq (fun r24 hq => ?_)
      obtain ⟨g25, hq⟩ := gd hq
      refine J_dup (pc := 139) X rfl dX6_readWord_139 ?_
      refine J_getI (pc := 140) X (isO_lay g25) fl_6_190 dX6_readWord_140 ?_
      refine J_iconst (pc := 143) X (v := 1) (by decide) dX6_readWord_143 ?_
      refine J_iload_n (pc := 144) X (j := 2) (i := 1) rfl rfl dX6_readWord_144 ?_
      refine J_ishl (pc := 145) X dX6_readWord_145 ?_
      refine J_ior (pc := 146) X dX6_readWord_146 ?_
      refine J_putI (pc := 147) X (isO_lay g25) fp_6_190 dX6_readWord_147 ?_
      refine J_ltH hq (fun h26 hq => ?_)
      refine J_aload_n (pc := 150) X (j := 1) (i := 0) rfl rfl dX6_readWord_150 ?_
      refine J_getF (pc := 151) X (b := 5) ly4 fl_6_12 rfl dX6_readWord_151 ?_
      obtain ⟨h27, hc, hq⟩ := bnv_e hq
      refine J_callV (pc := 154) (as := []) (st := []) (st2 := []) (r1 := (none, h27)) (h2 := h27) (ky := 2) X dX6_readWord_154 ca_X9_advance ci_X9_advance cs_X9_advance ml_6_71 (by decide) ly5 rfl rfl (m_X9_advance _ _ hc) rfl rfl (Nat.le_of_ble_eq_true rfl) rfl rfl ?_
      refine J_iload_n (pc := 157) X (j := 0) (i := 2) rfl rfl dX6_readWord_157 ?_
      obtain ⟨g28, hq⟩ := gd hq
      obtain rfl := Option.some.inj hq
      exact J_zret (pc := 158) X g28 dX6_readWord_158
theorem tf_X6_readWord {κ : Kx} (X : OK κ cX6_readWord 3 (some .boolean) "StruckWords$Reader" 4) (h : Hp) (q : (Int32 × Hp)) (hq : f_X6_readWord h = some q) : J κ 0 [(0, .inr (.inr 4))] [] h (some (.inl q.1), q.2) := by
  delta f_X6_readWord at hq
  refine J_aload_n (pc := 0) X (j := 0) (i := 0) rfl rfl dX6_readWord_0 ?_
  refine J_getR (pc := 1) X ly4 fl_6_74 dX6_readWord_1 ?_
  refine J_ltR hq (fun r1 hq => ?_)
  obtain ⟨g2, hq⟩ := gd hq
  refine J_getI (pc := 4) X (isO_lay g2) fl_6_60 dX6_readWord_4 ?_
  refine J_bipush (pc := 7) X (v := 8) (by decide) dX6_readWord_7 ?_
  refine J_icmp_lt (pc := 9) (tgt := 18) X dX6_readWord_9 rfl (fun c3 => ?_) (fun c3 => ?_)
  · have hq := ite_t hq c3
    refine J_aload_n (pc := 18) X (j := 0) (i := 0) rfl rfl dX6_readWord_18 ?_
    refine J_getR (pc := 19) X ly4 fl_6_74 dX6_readWord_19 ?_
    refine J_ltR hq (fun r4 hq => ?_)
    obtain ⟨g5, hq⟩ := gd hq
    refine J_getI (pc := 22) X (isO_lay g5) fl_6_60 dX6_readWord_22 ?_
    refine J_ltI hq (fun v6 hq => ?_)
    refine J_istore_n (pc := 25) X (L' := [(1, .inl v6), (0, .inr (.inr 4))]) (i := 1) rfl (by decide) rfl dX6_readWord_25 ?_
    refine J_aload_n (pc := 26) X (j := 1) (i := 0) rfl rfl dX6_readWord_26 ?_
    refine J_bipush (pc := 27) X (v := 8) (by decide) dX6_readWord_27 ?_
    refine J_iload_n (pc := 29) X (j := 0) (i := 1) rfl rfl dX6_readWord_29 ?_
    refine J_iadd (pc := 30) X dX6_readWord_30 ?_
    obtain ⟨v8, h7, hc, hq⟩ := bnd_e hq
    refine J_callV (pc := 31) (as := [.inl (8 + v6)]) (st := []) (st2 := [.inl v8]) (r1 := (some (.inl v8), h7)) (h2 := h7) (ky := 3) X dX6_readWord_31 ca_X6_readNewName ci_X6_readNewName cs_X6_readNewName ml_6_130 (by decide) ly4 rfl rfl (m_X6_readNewName _ _ _ hc) rfl rfl (Nat.le_of_ble_eq_true rfl) rfl rfl ?_
    refine J_if_ne (pc := 34) (tgt := 39) X dX6_readWord_34 rfl (fun c9 => ?_) (fun c9 => ?_)
    · have hq := ite_f hq c9
      refine J_aload_n (pc := 39) X (j := 1) (i := 0) rfl rfl dX6_readWord_39 ?_
      refine J_getR (pc := 40) X ly4 fl_6_74 dX6_readWord_40 ?_
      refine J_ltR hq (fun r10 hq => ?_)
      obtain ⟨g11, hq⟩ := gd hq
      refine J_dup (pc := 43) X rfl dX6_readWord_43 ?_
      refine J_getI (pc := 44) X (isO_lay g11) fl_6_60 dX6_readWord_44 ?_
      refine J_iconst (pc := 47) X (v := 1) (by decide) dX6_readWord_47 ?_
      refine J_iadd (pc := 48) X dX6_readWord_48 ?_
      refine J_putI (pc := 49) X (isO_lay g11) fp_6_60 dX6_readWord_49 ?_
      refine J_ltH hq (fun h12 hq => ?_)
      refine J_aload_n (pc := 52) X (j := 1) (i := 0) rfl rfl dX6_readWord_52 ?_
      refine J_getK (pc := 53) X (i := 6) (by decide) kf_6_165 dX6_readWord_53 ?_
      refine J_aload_n (pc := 56) X (j := 1) (i := 0) rfl rfl dX6_readWord_56 ?_
      refine J_getR (pc := 57) X ly4 fl_6_74 dX6_readWord_57 ?_
      refine J_ltR hq (fun r13 hq => ?_)
      obtain ⟨g14, hq⟩ := gd hq
      refine J_getF (pc := 60) X (b := r13 + 5) (isO_lay g14) fl_6_168 rfl dX6_readWord_60 ?_
      refine J_iconst (pc := 63) X (v := 0) (by decide) dX6_readWord_63 ?_
      refine J_bipush (pc := 64) X (v := 9) (by decide) dX6_readWord_64 ?_
      obtain ⟨v16, h15, hc, hq⟩ := bnd_e hq
      refine J_callV (pc := 66) (as := [.inr (.inr 306), .inr (.inr (r13 + 5)), .inl 0, .inl 9]) (st := []) (st2 := [.inl v16]) (r1 := (some (.inl v16), h15)) (h2 := h15) (ky := 3) X dX6_readWord_66 ca_X6_readOption ci_X6_readOption cs_X6_readOption ml_6_171 (by decide) ly4 rfl rfl (m_X6_readOption _ _ _ _ _ _ (show isKw 306 = true from rfl) (aln_of (ly_8_5 (isO_lay g14))) hc) rfl rfl (Nat.le_of_ble_eq_true rfl) rfl rfl ?_
      refine J_if_eq (pc := 69) (tgt := 116) X dX6_readWord_69 rfl (fun c17 => ?_) (fun c17 => ?_)
      · have hq := ite_t hq c17
        refine J_iconst (pc := 116) X (v := 0) (by decide) dX6_readWord_116 ?_
        refine J_sub [1, 0] rfl ?_
        exact tB_X6_readWord_117 X _ _ _ _ hq
      · have hq := ite_f hq c17
        refine J_aload_n (pc := 72) X (j := 1) (i := 0) rfl rfl dX6_readWord_72 ?_
        refine J_getK (pc := 73) X (i := 7) (by decide) kf_6_175 dX6_readWord_73 ?_
        refine J_aload_n (pc := 76) X (j := 1) (i := 0) rfl rfl dX6_readWord_76 ?_
        refine J_getR (pc := 77) X ly4 fl_6_74 dX6_readWord_77 ?_
        refine J_ltR hq (fun r29 hq => ?_)
        obtain ⟨g30, hq⟩ := gd hq
        refine J_getF (pc := 80) X (b := r29 + 6) (isO_lay g30) fl_6_178 rfl dX6_readWord_80 ?_
        refine J_iconst (pc := 83) X (v := 1) (by decide) dX6_readWord_83 ?_
        refine J_bipush (pc := 84) X (v := 60) (by decide) dX6_readWord_84 ?_
        obtain ⟨v32, h31, hc, hq⟩ := bnd_e hq
        refine J_callV (pc := 86) (as := [.inr (.inr 307), .inr (.inr (r29 + 6)), .inl 1, .inl 60]) (st := []) (st2 := [.inl v32]) (r1 := (some (.inl v32), h31)) (h2 := h31) (ky := 3) X dX6_readWord_86 ca_X6_readOption ci_X6_readOption cs_X6_readOption ml_6_171 (by decide) ly4 rfl rfl (m_X6_readOption _ _ _ _ _ _ (show isKw 307 = true from rfl) (aln_of (ly_8_6 (isO_lay g30))) hc) rfl rfl (Nat.le_of_ble_eq_true rfl) rfl rfl ?_
        refine J_if_eq (pc := 89) (tgt := 116) X dX6_readWord_89 rfl (fun c33 => ?_) (fun c33 => ?_)
        · have hq := ite_t hq c33
          refine J_iconst (pc := 116) X (v := 0) (by decide) dX6_readWord_116 ?_
          refine J_sub [1, 0] rfl ?_
          exact tB_X6_readWord_117 X _ _ _ _ hq
        · have hq := ite_f hq c33
          refine J_aload_n (pc := 92) X (j := 1) (i := 0) rfl rfl dX6_readWord_92 ?_
          refine J_getK (pc := 93) X (i := 8) (by decide) kf_6_181 dX6_readWord_93 ?_
          refine J_aload_n (pc := 96) X (j := 1) (i := 0) rfl rfl dX6_readWord_96 ?_
          refine J_getR (pc := 97) X ly4 fl_6_74 dX6_readWord_97 ?_
          refine J_ltR hq (fun r34 hq => ?_)
          obtain ⟨g35, hq⟩ := gd hq
          refine J_getF (pc := 100) X (b := r34 + 7) (isO_lay g35) fl_6_184 rfl dX6_readWord_100 ?_
          refine J_iconst (pc := 103) X (v := 0) (by decide) dX6_readWord_103 ?_
          refine J_bipush (pc := 104) X (v := 99) (by decide) dX6_readWord_104 ?_
          obtain ⟨v37, h36, hc, hq⟩ := bnd_e hq
          refine J_callV (pc := 106) (as := [.inr (.inr 308), .inr (.inr (r34 + 7)), .inl 0, .inl 99]) (st := []) (st2 := [.inl v37]) (r1 := (some (.inl v37), h36)) (h2 := h36) (ky := 3) X dX6_readWord_106 ca_X6_readOption ci_X6_readOption cs_X6_readOption ml_6_171 (by decide) ly4 rfl rfl (m_X6_readOption _ _ _ _ _ _ (show isKw 308 = true from rfl) (aln_of (ly_8_7 (isO_lay g35))) hc) rfl rfl (Nat.le_of_ble_eq_true rfl) rfl rfl ?_
          refine J_if_eq (pc := 109) (tgt := 116) X dX6_readWord_109 rfl (fun c38 => ?_) (fun c38 => ?_)
          · have hq := ite_t hq c38
            refine J_iconst (pc := 116) X (v := 0) (by decide) dX6_readWord_116 ?_
            refine J_sub [1, 0] rfl ?_
            exact tB_X6_readWord_117 X _ _ _ _ hq
          · have hq := ite_f hq c38
            refine J_iconst (pc := 112) X (v := 1) (by decide) dX6_readWord_112 ?_
            refine J_goto (pc := 113) X (tgt := 117) dX6_readWord_113 rfl ?_
            refine J_sub [1, 0] rfl ?_
            exact tB_X6_readWord_117 X _ _ _ _ hq
    · have hq := ite_t hq c9
      refine J_iconst (pc := 37) X (v := 0) (by decide) dX6_readWord_37 ?_
      obtain rfl := Option.some.inj hq
      exact J_zret (pc := 38) X (by decide) dX6_readWord_38
  · have hq := ite_f hq c3
    refine J_aload_n (pc := 12) X (j := 0) (i := 0) rfl rfl dX6_readWord_12 ?_
    refine J_iconst (pc := 13) X (v := 4) (by decide) dX6_readWord_13 ?_
    obtain ⟨v40, h39, hc, hq⟩ := bnd_e hq
    refine J_callV (pc := 14) (as := [.inl 4]) (st := []) (st2 := [.inl v40]) (r1 := (some (.inl v40), h39)) (h2 := h39) (ky := 1) X dX6_readWord_14 ca_X6_refuse ci_X6_refuse cs_X6_refuse ml_6_48 (by decide) ly4 rfl rfl (m_X6_refuse _ _ _ hc) rfl rfl (Nat.le_of_ble_eq_true rfl) rfl rfl ?_
    obtain ⟨g41, hq⟩ := gd hq
    obtain rfl := Option.some.inj hq
    exact J_zret (pc := 17) X g41 dX6_readWord_17
theorem m_X6_readWord (h : Hp) (q : (Int32 × Hp)) (hq : f_X6_readWord  h = some q) : ∀ l w, CT l w yX6_readWord cX6_readWord 3 (some .boolean) 4 [.inr (.inr 4)] h (some (.inl q.1), q.2) :=
  CT_of (L0 := [(0, .inr (.inr 4))]) (by decide) rfl (Nat.le_of_ble_eq_true rfl) (fun κ X => tf_X6_readWord X  h q  hq)
theorem tf_X6_readLine {κ : Kx} (X : OK κ cX6_readLine 1 (some .boolean) "StruckWords$Reader" 5) (h : Hp) (q : (Int32 × Hp)) (hq : f_X6_readLine h = some q) : J κ 0 [(0, .inr (.inr 4))] [] h (some (.inl q.1), q.2) := by
  delta f_X6_readLine at hq
  refine J_aload_n (pc := 0) X (j := 0) (i := 0) rfl rfl dX6_readLine_0 ?_
  refine J_getF (pc := 1) X (b := 5) ly4 fl_6_12 rfl dX6_readLine_1 ?_
  refine J_getR (pc := 4) X ly5 fl_6_87 dX6_readLine_4 ?_
  refine J_ltR hq (fun r1 hq => ?_)
  obtain ⟨g2, hq⟩ := gd hq
  refine J_ifnonnull (pc := 7) (tgt := 16) X dX6_readLine_7 rfl (fun c3 => ?_) (fun c3 => ?_)
  · have hq := ite_f hq c3
    refine J_getSWM (pc := 16) X ks_6_91 dX6_readLine_16 ?_
    refine J_aload_n (pc := 19) X (j := 0) (i := 0) rfl rfl dX6_readLine_19 ?_
    refine J_getF (pc := 20) X (b := 5) ly4 fl_6_12 rfl dX6_readLine_20 ?_
    refine J_getR (pc := 23) X ly5 fl_6_87 dX6_readLine_23 ?_
    refine J_ltR hq (fun r4 hq => ?_)
    obtain ⟨g5, hq⟩ := gd hq
    obtain ⟨g6, hq⟩ := gd hq
    refine J_ordinal (pc := 26) X g6 ml_6_97 dX6_readLine_26 (Nat.le_of_ble_eq_true rfl) ?_
    obtain ⟨g7, hq⟩ := gd hq
    refine J_ialoadT (pc := 29) X g7 dX6_readLine_29 ?_
    by_cases c8 : (swT.getD (Int32.ofNat (r4 - 300)).toNatClampNeg 0) = 1
    · have hq := ite_t hq c8
      refine J_tsIn (pc := 30) (tgt := 72) X dX6_readLine_30 (1) (by rw [c8]; rfl) (by decide) (by decide) rfl rfl ?_
      refine J_aload_n (pc := 72) X (j := 0) (i := 0) rfl rfl dX6_readLine_72 ?_
      obtain ⟨v10, h9, hc, hq⟩ := bnd_e hq
      refine J_callV (pc := 73) (as := []) (st := []) (st2 := [.inl v10]) (r1 := (some (.inl v10), h9)) (h2 := h9) (ky := 4) X dX6_readLine_73 ca_X6_readSort ci_X6_readSort cs_X6_readSort ml_6_103 (by decide) ly4 rfl rfl (m_X6_readSort _ _ hc) rfl rfl (Nat.le_of_ble_eq_true rfl) rfl rfl ?_
      refine J_if_eq (pc := 76) (tgt := 90) X dX6_readLine_76 rfl (fun c11 => ?_) (fun c11 => ?_)
      · have hq := ite_t hq c11
        refine J_iconst (pc := 90) X (v := 0) (by decide) dX6_readLine_90 ?_
        obtain rfl := Option.some.inj hq
        exact J_zret (pc := 91) X (by decide) dX6_readLine_91
      · have hq := ite_f hq c11
        refine J_aload_n (pc := 79) X (j := 0) (i := 0) rfl rfl dX6_readLine_79 ?_
        obtain ⟨v13, h12, hc, hq⟩ := bnd_e hq
        refine J_callV (pc := 80) (as := []) (st := []) (st2 := [.inl v13]) (r1 := (some (.inl v13), h12)) (h2 := h12) (ky := 3) X dX6_readLine_80 ca_X6_readClose ci_X6_readClose cs_X6_readClose ml_6_106 (by decide) ly4 rfl rfl (m_X6_readClose _ _ hc) rfl rfl (Nat.le_of_ble_eq_true rfl) rfl rfl ?_
        refine J_if_eq (pc := 83) (tgt := 90) X dX6_readLine_83 rfl (fun c14 => ?_) (fun c14 => ?_)
        · have hq := ite_t hq c14
          refine J_iconst (pc := 90) X (v := 0) (by decide) dX6_readLine_90 ?_
          obtain rfl := Option.some.inj hq
          exact J_zret (pc := 91) X (by decide) dX6_readLine_91
        · have hq := ite_f hq c14
          refine J_iconst (pc := 86) X (v := 1) (by decide) dX6_readLine_86 ?_
          refine J_goto (pc := 87) X (tgt := 91) dX6_readLine_87 rfl ?_
          obtain rfl := Option.some.inj hq
          exact J_zret (pc := 91) X (by decide) dX6_readLine_91
    · have hq := ite_f hq c8
      by_cases c15 : (swT.getD (Int32.ofNat (r4 - 300)).toNatClampNeg 0) = 2
      · have hq := ite_t hq c15
        refine J_tsIn (pc := 30) (tgt := 92) X dX6_readLine_30 (2) (by rw [c15]; rfl) (by decide) (by decide) rfl rfl ?_
        refine J_aload_n (pc := 92) X (j := 0) (i := 0) rfl rfl dX6_readLine_92 ?_
        obtain ⟨v17, h16, hc, hq⟩ := bnd_e hq
        refine J_callV (pc := 93) (as := []) (st := []) (st2 := [.inl v17]) (r1 := (some (.inl v17), h16)) (h2 := h16) (ky := 4) X dX6_readLine_93 ca_X6_readMark ci_X6_readMark cs_X6_readMark ml_6_109 (by decide) ly4 rfl rfl (m_X6_readMark _ _ hc) rfl rfl (Nat.le_of_ble_eq_true rfl) rfl rfl ?_
        refine J_if_eq (pc := 96) (tgt := 110) X dX6_readLine_96 rfl (fun c18 => ?_) (fun c18 => ?_)
        · have hq := ite_t hq c18
          refine J_iconst (pc := 110) X (v := 0) (by decide) dX6_readLine_110 ?_
          obtain rfl := Option.some.inj hq
          exact J_zret (pc := 111) X (by decide) dX6_readLine_111
        · have hq := ite_f hq c18
          refine J_aload_n (pc := 99) X (j := 0) (i := 0) rfl rfl dX6_readLine_99 ?_
          obtain ⟨v20, h19, hc, hq⟩ := bnd_e hq
          refine J_callV (pc := 100) (as := []) (st := []) (st2 := [.inl v20]) (r1 := (some (.inl v20), h19)) (h2 := h19) (ky := 3) X dX6_readLine_100 ca_X6_readClose ci_X6_readClose cs_X6_readClose ml_6_106 (by decide) ly4 rfl rfl (m_X6_readClose _ _ hc) rfl rfl (Nat.le_of_ble_eq_true rfl) rfl rfl ?_
          refine J_if_eq (pc := 103) (tgt := 110) X dX6_readLine_103 rfl (fun c21 => ?_) (fun c21 => ?_)
          · have hq := ite_t hq c21
            refine J_iconst (pc := 110) X (v := 0) (by decide) dX6_readLine_110 ?_
            obtain rfl := Option.some.inj hq
            exact J_zret (pc := 111) X (by decide) dX6_readLine_111
          · have hq := ite_f hq c21
            refine J_iconst (pc := 106) X (v := 1) (by decide) dX6_readLine_106 ?_
            refine J_goto (pc := 107) X (tgt := 111) dX6_readLine_107 rfl ?_
            obtain rfl := Option.some.inj hq
            exact J_zret (pc := 111) X (by decide) dX6_readLine_111
      · have hq := ite_f hq c15
        by_cases c22 : (swT.getD (Int32.ofNat (r4 - 300)).toNatClampNeg 0) = 3
        · have hq := ite_t hq c22
          refine J_tsIn (pc := 30) (tgt := 112) X dX6_readLine_30 (3) (by rw [c22]; rfl) (by decide) (by decide) rfl rfl ?_
          refine J_aload_n (pc := 112) X (j := 0) (i := 0) rfl rfl dX6_readLine_112 ?_
          obtain ⟨v24, h23, hc, hq⟩ := bnd_e hq
          refine J_callV (pc := 113) (as := []) (st := []) (st2 := [.inl v24]) (r1 := (some (.inl v24), h23)) (h2 := h23) (ky := 3) X dX6_readLine_113 ca_X6_readFollow ci_X6_readFollow cs_X6_readFollow ml_6_112 (by decide) ly4 rfl rfl (m_X6_readFollow _ _ hc) rfl rfl (Nat.le_of_ble_eq_true rfl) rfl rfl ?_
          refine J_if_eq (pc := 116) (tgt := 130) X dX6_readLine_116 rfl (fun c25 => ?_) (fun c25 => ?_)
          · have hq := ite_t hq c25
            refine J_iconst (pc := 130) X (v := 0) (by decide) dX6_readLine_130 ?_
            obtain rfl := Option.some.inj hq
            exact J_zret (pc := 131) X (by decide) dX6_readLine_131
          · have hq := ite_f hq c25
            refine J_aload_n (pc := 119) X (j := 0) (i := 0) rfl rfl dX6_readLine_119 ?_
            obtain ⟨v27, h26, hc, hq⟩ := bnd_e hq
            refine J_callV (pc := 120) (as := []) (st := []) (st2 := [.inl v27]) (r1 := (some (.inl v27), h26)) (h2 := h26) (ky := 3) X dX6_readLine_120 ca_X6_readClose ci_X6_readClose cs_X6_readClose ml_6_106 (by decide) ly4 rfl rfl (m_X6_readClose _ _ hc) rfl rfl (Nat.le_of_ble_eq_true rfl) rfl rfl ?_
            refine J_if_eq (pc := 123) (tgt := 130) X dX6_readLine_123 rfl (fun c28 => ?_) (fun c28 => ?_)
            · have hq := ite_t hq c28
              refine J_iconst (pc := 130) X (v := 0) (by decide) dX6_readLine_130 ?_
              obtain rfl := Option.some.inj hq
              exact J_zret (pc := 131) X (by decide) dX6_readLine_131
            · have hq := ite_f hq c28
              refine J_iconst (pc := 126) X (v := 1) (by decide) dX6_readLine_126 ?_
              refine J_goto (pc := 127) X (tgt := 131) dX6_readLine_127 rfl ?_
              obtain rfl := Option.some.inj hq
              exact J_zret (pc := 131) X (by decide) dX6_readLine_131
        · have hq := ite_f hq c22
          by_cases c29 : (swT.getD (Int32.ofNat (r4 - 300)).toNatClampNeg 0) = 4
          · have hq := ite_t hq c29
            refine J_tsIn (pc := 30) (tgt := 132) X dX6_readLine_30 (4) (by rw [c29]; rfl) (by decide) (by decide) rfl rfl ?_
            refine J_aload_n (pc := 132) X (j := 0) (i := 0) rfl rfl dX6_readLine_132 ?_
            obtain ⟨v31, h30, hc, hq⟩ := bnd_e hq
            refine J_callV (pc := 133) (as := []) (st := []) (st2 := [.inl v31]) (r1 := (some (.inl v31), h30)) (h2 := h30) (ky := 4) X dX6_readLine_133 ca_X6_readWord ci_X6_readWord cs_X6_readWord ml_6_115 (by decide) ly4 rfl rfl (m_X6_readWord _ _ hc) rfl rfl (Nat.le_of_ble_eq_true rfl) rfl rfl ?_
            refine J_if_eq (pc := 136) (tgt := 150) X dX6_readLine_136 rfl (fun c32 => ?_) (fun c32 => ?_)
            · have hq := ite_t hq c32
              refine J_iconst (pc := 150) X (v := 0) (by decide) dX6_readLine_150 ?_
              obtain rfl := Option.some.inj hq
              exact J_zret (pc := 151) X (by decide) dX6_readLine_151
            · have hq := ite_f hq c32
              refine J_aload_n (pc := 139) X (j := 0) (i := 0) rfl rfl dX6_readLine_139 ?_
              obtain ⟨v34, h33, hc, hq⟩ := bnd_e hq
              refine J_callV (pc := 140) (as := []) (st := []) (st2 := [.inl v34]) (r1 := (some (.inl v34), h33)) (h2 := h33) (ky := 3) X dX6_readLine_140 ca_X6_readClose ci_X6_readClose cs_X6_readClose ml_6_106 (by decide) ly4 rfl rfl (m_X6_readClose _ _ hc) rfl rfl (Nat.le_of_ble_eq_true rfl) rfl rfl ?_
              refine J_if_eq (pc := 143) (tgt := 150) X dX6_readLine_143 rfl (fun c35 => ?_) (fun c35 => ?_)
              · have hq := ite_t hq c35
                refine J_iconst (pc := 150) X (v := 0) (by decide) dX6_readLine_150 ?_
                obtain rfl := Option.some.inj hq
                exact J_zret (pc := 151) X (by decide) dX6_readLine_151
              · have hq := ite_f hq c35
                refine J_iconst (pc := 146) X (v := 1) (by decide) dX6_readLine_146 ?_
                refine J_goto (pc := 147) X (tgt := 151) dX6_readLine_147 rfl ?_
                obtain rfl := Option.some.inj hq
                exact J_zret (pc := 151) X (by decide) dX6_readLine_151
          · have hq := ite_f hq c29
            by_cases c36 : (swT.getD (Int32.ofNat (r4 - 300)).toNatClampNeg 0) = 5
            · have hq := ite_t hq c36
              refine J_tsIn (pc := 30) (tgt := 152) X dX6_readLine_30 (5) (by rw [c36]; rfl) (by decide) (by decide) rfl rfl ?_
              refine J_aload_n (pc := 152) X (j := 0) (i := 0) rfl rfl dX6_readLine_152 ?_
              obtain ⟨v38, h37, hc, hq⟩ := bnd_e hq
              refine J_callV (pc := 153) (as := []) (st := []) (st2 := [.inl v38]) (r1 := (some (.inl v38), h37)) (h2 := h37) (ky := 4) X dX6_readLine_153 ca_X6_readReads ci_X6_readReads cs_X6_readReads ml_6_118 (by decide) ly4 rfl rfl (m_X6_readReads _ _ hc) rfl rfl (Nat.le_of_ble_eq_true rfl) rfl rfl ?_
              refine J_if_eq (pc := 156) (tgt := 170) X dX6_readLine_156 rfl (fun c39 => ?_) (fun c39 => ?_)
              · have hq := ite_t hq c39
                refine J_iconst (pc := 170) X (v := 0) (by decide) dX6_readLine_170 ?_
                obtain rfl := Option.some.inj hq
                exact J_zret (pc := 171) X (by decide) dX6_readLine_171
              · have hq := ite_f hq c39
                refine J_aload_n (pc := 159) X (j := 0) (i := 0) rfl rfl dX6_readLine_159 ?_
                obtain ⟨v41, h40, hc, hq⟩ := bnd_e hq
                refine J_callV (pc := 160) (as := []) (st := []) (st2 := [.inl v41]) (r1 := (some (.inl v41), h40)) (h2 := h40) (ky := 3) X dX6_readLine_160 ca_X6_readClose ci_X6_readClose cs_X6_readClose ml_6_106 (by decide) ly4 rfl rfl (m_X6_readClose _ _ hc) rfl rfl (Nat.le_of_ble_eq_true rfl) rfl rfl ?_
                refine J_if_eq (pc := 163) (tgt := 170) X dX6_readLine_163 rfl (fun c42 => ?_) (fun c42 => ?_)
                · have hq := ite_t hq c42
                  refine J_iconst (pc := 170) X (v := 0) (by decide) dX6_readLine_170 ?_
                  obtain rfl := Option.some.inj hq
                  exact J_zret (pc := 171) X (by decide) dX6_readLine_171
                · have hq := ite_f hq c42
                  refine J_iconst (pc := 166) X (v := 1) (by decide) dX6_readLine_166 ?_
                  refine J_goto (pc := 167) X (tgt := 171) dX6_readLine_167 rfl ?_
                  obtain rfl := Option.some.inj hq
                  exact J_zret (pc := 171) X (by decide) dX6_readLine_171
            · have hq := ite_f hq c36
              by_cases c43 : (swT.getD (Int32.ofNat (r4 - 300)).toNatClampNeg 0) = 6
              · have hq := ite_t hq c43
                refine J_tsIn (pc := 30) (tgt := 172) X dX6_readLine_30 (6) (by rw [c43]; rfl) (by decide) (by decide) rfl rfl ?_
                refine J_aload_n (pc := 172) X (j := 0) (i := 0) rfl rfl dX6_readLine_172 ?_
                obtain ⟨v45, h44, hc, hq⟩ := bnd_e hq
                refine J_callV (pc := 173) (as := []) (st := []) (st2 := [.inl v45]) (r1 := (some (.inl v45), h44)) (h2 := h44) (ky := 3) X dX6_readLine_173 ca_X6_readEdict ci_X6_readEdict cs_X6_readEdict ml_6_121 (by decide) ly4 rfl rfl (m_X6_readEdict _ _ hc) rfl rfl (Nat.le_of_ble_eq_true rfl) rfl rfl ?_
                refine J_if_eq (pc := 176) (tgt := 190) X dX6_readLine_176 rfl (fun c46 => ?_) (fun c46 => ?_)
                · have hq := ite_t hq c46
                  refine J_iconst (pc := 190) X (v := 0) (by decide) dX6_readLine_190 ?_
                  obtain rfl := Option.some.inj hq
                  exact J_zret (pc := 191) X (by decide) dX6_readLine_191
                · have hq := ite_f hq c46
                  refine J_aload_n (pc := 179) X (j := 0) (i := 0) rfl rfl dX6_readLine_179 ?_
                  obtain ⟨v48, h47, hc, hq⟩ := bnd_e hq
                  refine J_callV (pc := 180) (as := []) (st := []) (st2 := [.inl v48]) (r1 := (some (.inl v48), h47)) (h2 := h47) (ky := 3) X dX6_readLine_180 ca_X6_readClose ci_X6_readClose cs_X6_readClose ml_6_106 (by decide) ly4 rfl rfl (m_X6_readClose _ _ hc) rfl rfl (Nat.le_of_ble_eq_true rfl) rfl rfl ?_
                  refine J_if_eq (pc := 183) (tgt := 190) X dX6_readLine_183 rfl (fun c49 => ?_) (fun c49 => ?_)
                  · have hq := ite_t hq c49
                    refine J_iconst (pc := 190) X (v := 0) (by decide) dX6_readLine_190 ?_
                    obtain rfl := Option.some.inj hq
                    exact J_zret (pc := 191) X (by decide) dX6_readLine_191
                  · have hq := ite_f hq c49
                    refine J_iconst (pc := 186) X (v := 1) (by decide) dX6_readLine_186 ?_
                    refine J_goto (pc := 187) X (tgt := 191) dX6_readLine_187 rfl ?_
                    obtain rfl := Option.some.inj hq
                    exact J_zret (pc := 191) X (by decide) dX6_readLine_191
              · have hq := ite_f hq c43
                by_cases c50 : (swT.getD (Int32.ofNat (r4 - 300)).toNatClampNeg 0) = 7
                · have hq := ite_t hq c50
                  refine J_tsIn (pc := 30) (tgt := 192) X dX6_readLine_30 (7) (by rw [c50]; rfl) (by decide) (by decide) rfl rfl ?_
                  refine J_aload_n (pc := 192) X (j := 0) (i := 0) rfl rfl dX6_readLine_192 ?_
                  obtain ⟨v52, h51, hc, hq⟩ := bnd_e hq
                  refine J_callV (pc := 193) (as := []) (st := []) (st2 := [.inl v52]) (r1 := (some (.inl v52), h51)) (h2 := h51) (ky := 3) X dX6_readLine_193 ca_X6_readClerk ci_X6_readClerk cs_X6_readClerk ml_6_124 (by decide) ly4 rfl rfl (m_X6_readClerk _ _ hc) rfl rfl (Nat.le_of_ble_eq_true rfl) rfl rfl ?_
                  refine J_if_eq (pc := 196) (tgt := 210) X dX6_readLine_196 rfl (fun c53 => ?_) (fun c53 => ?_)
                  · have hq := ite_t hq c53
                    refine J_iconst (pc := 210) X (v := 0) (by decide) dX6_readLine_210 ?_
                    obtain rfl := Option.some.inj hq
                    exact J_zret (pc := 211) X (by decide) dX6_readLine_211
                  · have hq := ite_f hq c53
                    refine J_aload_n (pc := 199) X (j := 0) (i := 0) rfl rfl dX6_readLine_199 ?_
                    obtain ⟨v55, h54, hc, hq⟩ := bnd_e hq
                    refine J_callV (pc := 200) (as := []) (st := []) (st2 := [.inl v55]) (r1 := (some (.inl v55), h54)) (h2 := h54) (ky := 3) X dX6_readLine_200 ca_X6_readClose ci_X6_readClose cs_X6_readClose ml_6_106 (by decide) ly4 rfl rfl (m_X6_readClose _ _ hc) rfl rfl (Nat.le_of_ble_eq_true rfl) rfl rfl ?_
                    refine J_if_eq (pc := 203) (tgt := 210) X dX6_readLine_203 rfl (fun c56 => ?_) (fun c56 => ?_)
                    · have hq := ite_t hq c56
                      refine J_iconst (pc := 210) X (v := 0) (by decide) dX6_readLine_210 ?_
                      obtain rfl := Option.some.inj hq
                      exact J_zret (pc := 211) X (by decide) dX6_readLine_211
                    · have hq := ite_f hq c56
                      refine J_iconst (pc := 206) X (v := 1) (by decide) dX6_readLine_206 ?_
                      refine J_goto (pc := 207) X (tgt := 211) dX6_readLine_207 rfl ?_
                      obtain rfl := Option.some.inj hq
                      exact J_zret (pc := 211) X (by decide) dX6_readLine_211
                · have hq := ite_f hq c50
                  refine J_tsOut (pc := 30) (tgt := 212) X dX6_readLine_30 (by
                      have e0 := ne_toInt c8; rw [show (1 : Int32).toInt = 1 from rfl] at e0
                      have e1 := ne_toInt c15; rw [show (2 : Int32).toInt = 2 from rfl] at e1
                      have e2 := ne_toInt c22; rw [show (3 : Int32).toInt = 3 from rfl] at e2
                      have e3 := ne_toInt c29; rw [show (4 : Int32).toInt = 4 from rfl] at e3
                      have e4 := ne_toInt c36; rw [show (5 : Int32).toInt = 5 from rfl] at e4
                      have e5 := ne_toInt c43; rw [show (6 : Int32).toInt = 6 from rfl] at e5
                      have e6 := ne_toInt c50; rw [show (7 : Int32).toInt = 7 from rfl] at e6
                      omega) rfl ?_
                  refine J_aload_n (pc := 212) X (j := 0) (i := 0) rfl rfl dX6_readLine_212 ?_
                  refine J_iconst (pc := 213) X (v := 1) (by decide) dX6_readLine_213 ?_
                  obtain ⟨v58, h57, hc, hq⟩ := bnd_e hq
                  refine J_callV (pc := 214) (as := [.inl 1]) (st := []) (st2 := [.inl v58]) (r1 := (some (.inl v58), h57)) (h2 := h57) (ky := 1) X dX6_readLine_214 ca_X6_refuse ci_X6_refuse cs_X6_refuse ml_6_48 (by decide) ly4 rfl rfl (m_X6_refuse _ _ _ hc) rfl rfl (Nat.le_of_ble_eq_true rfl) rfl rfl ?_
                  obtain ⟨g59, hq⟩ := gd hq
                  obtain rfl := Option.some.inj hq
                  exact J_zret (pc := 217) X g59 dX6_readLine_217
  · have hq := ite_t hq c3
    refine J_aload_n (pc := 10) X (j := 0) (i := 0) rfl rfl dX6_readLine_10 ?_
    refine J_iconst (pc := 11) X (v := 1) (by decide) dX6_readLine_11 ?_
    obtain ⟨v61, h60, hc, hq⟩ := bnd_e hq
    refine J_callV (pc := 12) (as := [.inl 1]) (st := []) (st2 := [.inl v61]) (r1 := (some (.inl v61), h60)) (h2 := h60) (ky := 1) X dX6_readLine_12 ca_X6_refuse ci_X6_refuse cs_X6_refuse ml_6_48 (by decide) ly4 rfl rfl (m_X6_refuse _ _ _ hc) rfl rfl (Nat.le_of_ble_eq_true rfl) rfl rfl ?_
    obtain ⟨g62, hq⟩ := gd hq
    obtain rfl := Option.some.inj hq
    exact J_zret (pc := 15) X g62 dX6_readLine_15
theorem m_X6_readLine (h : Hp) (q : (Int32 × Hp)) (hq : f_X6_readLine  h = some q) : ∀ l w, CT l w yX6_readLine cX6_readLine 1 (some .boolean) 5 [.inr (.inr 4)] h (some (.inl q.1), q.2) :=
  CT_of (L0 := [(0, .inr (.inr 4))]) (by decide) rfl (Nat.le_of_ble_eq_true rfl) (fun κ X => tf_X6_readLine X  h q  hq)
theorem tf_X9_isTooLong {κ : Kx} (X : OK κ cX9_isTooLong 1 (some .boolean) "StruckWords$Tokens" 1) (h : Hp) (q : (Int32 × Hp)) (hq : f_X9_isTooLong h = some q) : J κ 0 [(0, .inr (.inr 5))] [] h (some (.inl q.1), q.2) := by
  delta f_X9_isTooLong at hq
  refine J_aload_n (pc := 0) X (j := 0) (i := 0) rfl rfl dX9_isTooLong_0 ?_
  refine J_getR (pc := 1) X ly5 fl_9_9 dX9_isTooLong_1 ?_
  refine J_ltR hq (fun r1 hq => ?_)
  obtain ⟨g2, hq⟩ := gd hq
  refine J_getI (pc := 4) X (isO_lay g2) fl_9_25 dX9_isTooLong_4 ?_
  refine J_aload_n (pc := 7) X (j := 0) (i := 0) rfl rfl dX9_isTooLong_7 ?_
  refine J_getI (pc := 8) X ly5 fl_9_15 dX9_isTooLong_8 ?_
  refine J_icmp_le (pc := 11) (tgt := 18) X dX9_isTooLong_11 rfl (fun c3 => ?_) (fun c3 => ?_)
  · have hq := ite_t hq c3
    refine J_iconst (pc := 18) X (v := 0) (by decide) dX9_isTooLong_18 ?_
    obtain rfl := Option.some.inj hq
    exact J_zret (pc := 19) X (by decide) dX9_isTooLong_19
  · have hq := ite_f hq c3
    refine J_iconst (pc := 14) X (v := 1) (by decide) dX9_isTooLong_14 ?_
    refine J_goto (pc := 15) X (tgt := 19) dX9_isTooLong_15 rfl ?_
    obtain rfl := Option.some.inj hq
    exact J_zret (pc := 19) X (by decide) dX9_isTooLong_19
theorem m_X9_isTooLong (h : Hp) (q : (Int32 × Hp)) (hq : f_X9_isTooLong  h = some q) : ∀ l w, CT l w yX9_isTooLong cX9_isTooLong 1 (some .boolean) 1 [.inr (.inr 5)] h (some (.inl q.1), q.2) :=
  CT_of (L0 := [(0, .inr (.inr 5))]) (by decide) rfl (Nat.le_of_ble_eq_true rfl) (fun κ X => tf_X9_isTooLong X  h q  hq)
theorem tF_X6_readTongue_25 {κ : Kx} (X : OK κ cX6_readTongue 4 (some .int) "StruckWords$Reader" 6) (x2 : Nat) (k49 : Hp → Option (Int32 × Hp)) (k62 : Int32 → Hp → Option (Int32 × Hp)) (self : Int32 → Hp → Option (Int32 × Hp)) (x3 : Int32) (h : Hp) (q : (Int32 × Hp)) (lx2 : lay x2 = some (.inl 8)) (hk49 : ∀ (h : Hp) (q : (Int32 × Hp)), k49 h = some q → J κ 49 [(0, .inr (.inr 4))] [] h (some (.inl q.1), q.2)) (hk62 : ∀ (x3 : Int32) (h : Hp) (q : (Int32 × Hp)), k62 x3 h = some q → J κ 62 [(0, .inr (.inr 4)), (2, .inr (.inr x2)), (3, .inl x3)] [] h (some (.inl q.1), q.2)) (hself : ∀ (x3 : Int32) (h : Hp) (q : (Int32 × Hp)), self x3 h = some q → J κ 25 [(0, .inr (.inr 4)), (2, .inr (.inr x2)), (3, .inl x3)] [] h (some (.inl q.1), q.2)) (hq : F_X6_readTongue_25 x2 k49 k62 self x3 h = some q) : J κ 25 [(0, .inr (.inr 4)), (2, .inr (.inr x2)), (3, .inl x3)] [] h (some (.inl q.1), q.2) := by
  delta F_X6_readTongue_25 at hq
  refine J_iload_n (pc := 25) X (j := 2) (i := 3) rfl rfl dX6_readTongue_25 ?_
  refine J_sipush (pc := 26) X (v := 900) (by decide) dX6_readTongue_26 ?_
  refine J_icmp_ge (pc := 29) (tgt := 62) X dX6_readTongue_29 rfl (fun c5 => ?_) (fun c5 => ?_)
  · have hq := ite_t hq c5
    exact hk62 _ _ _ hq
  · have hq := ite_f hq c5
    refine J_aload_n (pc := 32) X (j := 0) (i := 0) rfl rfl dX6_readTongue_32 ?_
    refine J_getF (pc := 33) X (b := 5) ly4 fl_6_12 rfl dX6_readTongue_33 ?_
    refine J_getI (pc := 36) X ly5 fl_6_35 dX6_readTongue_36 ?_
    refine J_if_eq (pc := 39) (tgt := 62) X dX6_readTongue_39 rfl (fun c6 => ?_) (fun c6 => ?_)
    · have hq := ite_t hq c6
      exact hk62 _ _ _ hq
    · have hq := ite_f hq c6
      refine J_aload_n (pc := 42) X (j := 0) (i := 0) rfl rfl dX6_readTongue_42 ?_
      obtain ⟨v8, h7, hc, hq⟩ := bnd_e hq
      refine J_callV (pc := 43) (as := []) (st := []) (st2 := [.inl v8]) (r1 := (some (.inl v8), h7)) (h2 := h7) (ky := 5) X dX6_readTongue_43 ca_X6_readLine ci_X6_readLine cs_X6_readLine ml_6_38 (by decide) ly4 rfl rfl (m_X6_readLine _ _ hc) rfl rfl (Nat.le_of_ble_eq_true rfl) rfl rfl ?_
      refine J_if_ne (pc := 46) (tgt := 56) X dX6_readTongue_46 rfl (fun c9 => ?_) (fun c9 => ?_)
      · have hq := ite_f hq c9
        refine J_iinc (pc := 56) X (j := 2) (v := 1) (L' := [(3, .inl (x3 + 1)), (0, .inr (.inr 4)), (2, .inr (.inr x2))]) rfl (by decide) (by decide) rfl dX6_readTongue_56 ?_
        refine J_goto (pc := 59) X (tgt := 25) dX6_readTongue_59 rfl ?_
        refine J_sub [1, 2, 0] rfl ?_
        exact hself _ _ _ hq
      · have hq := ite_t hq c9
        refine J_sub [0] rfl ?_
        exact hk49 _ _ hq
theorem tL_X6_readTongue_25 {κ : Kx} (X : OK κ cX6_readTongue 4 (some .int) "StruckWords$Reader" 6) (x2 : Nat) (k49 : Hp → Option (Int32 × Hp)) (k62 : Int32 → Hp → Option (Int32 × Hp)) (N : Nat) (x3 : Int32) (h : Hp) (q : (Int32 × Hp)) (lx2 : lay x2 = some (.inl 8)) (hk49 : ∀ (h : Hp) (q : (Int32 × Hp)), k49 h = some q → J κ 49 [(0, .inr (.inr 4))] [] h (some (.inl q.1), q.2)) (hk62 : ∀ (x3 : Int32) (h : Hp) (q : (Int32 × Hp)), k62 x3 h = some q → J κ 62 [(0, .inr (.inr 4)), (2, .inr (.inr x2)), (3, .inl x3)] [] h (some (.inl q.1), q.2)) (hq : itr2 (F_X6_readTongue_25 x2 k49 k62) N x3 h = some q) : J κ 25 [(0, .inr (.inr 4)), (2, .inr (.inr x2)), (3, .inl x3)] [] h (some (.inl q.1), q.2) :=
  itr2_ind (fun self hs x3 h q hq => tF_X6_readTongue_25 X x2 k49 k62 self x3 h q lx2 hk49 hk62 hs hq) N x3 h q hq
theorem tB_X6_readTongue_62 {κ : Kx} (X : OK κ cX6_readTongue 4 (some .int) "StruckWords$Reader" 6) (x2 : Nat) (x3 : Int32) (h : Hp) (q : (Int32 × Hp)) (lx2 : lay x2 = some (.inl 8)) (hq : B_X6_readTongue_62 x2 x3 h = some q) : J κ 62 [(0, .inr (.inr 4)), (2, .inr (.inr x2)), (3, .inl x3)] [] h (some (.inl q.1), q.2) := by
  delta B_X6_readTongue_62 at hq
  refine J_aload_n (pc := 62) X (j := 0) (i := 0) rfl rfl dX6_readTongue_62 ?_
  refine J_getF (pc := 63) X (b := 5) ly4 fl_6_12 rfl dX6_readTongue_63 ?_
  obtain ⟨v14, h13, hc, hq⟩ := bnd_e hq
  refine J_callV (pc := 66) (as := []) (st := []) (st2 := [.inl v14]) (r1 := (some (.inl v14), h13)) (h2 := h13) (ky := 1) X dX6_readTongue_66 ca_X9_isTooLong ci_X9_isTooLong cs_X9_isTooLong ml_6_45 (by decide) ly5 rfl rfl (m_X9_isTooLong _ _ hc) rfl rfl (Nat.le_of_ble_eq_true rfl) rfl rfl ?_
  refine J_if_eq (pc := 69) (tgt := 85) X dX6_readTongue_69 rfl (fun c15 => ?_) (fun c15 => ?_)
  · have hq := ite_t hq c15
    refine J_aload_n (pc := 85) X (j := 1) (i := 2) rfl rfl dX6_readTongue_85 ?_
    obtain ⟨h16, hc, hq⟩ := bnv_e hq
    refine J_callV (pc := 86) (as := []) (st := []) (st2 := []) (r1 := (none, h16)) (h2 := h16) (ky := 2) X dX6_readTongue_86 ca_X10_settle ci_X10_settle cs_X10_settle ml_6_52 (by decide) lx2 rfl rfl (m_X10_settle _ _ _ lx2 hc) rfl rfl (Nat.le_of_ble_eq_true rfl) rfl rfl ?_
    refine J_iload_n (pc := 89) X (j := 2) (i := 3) rfl rfl dX6_readTongue_89 ?_
    obtain rfl := Option.some.inj hq
    exact J_iret (pc := 90) X dX6_readTongue_90
  · have hq := ite_f hq c15
    refine J_aload_n (pc := 72) X (j := 0) (i := 0) rfl rfl dX6_readTongue_72 ?_
    refine J_iconst (pc := 73) X (v := 1) (by decide) dX6_readTongue_73 ?_
    obtain ⟨v18, h17, hc, hq⟩ := bnd_e hq
    refine J_callV (pc := 74) (as := [.inl 1]) (st := []) (st2 := [.inl v18]) (r1 := (some (.inl v18), h17)) (h2 := h17) (ky := 1) X dX6_readTongue_74 ca_X6_refuse ci_X6_refuse cs_X6_refuse ml_6_48 (by decide) ly4 rfl rfl (m_X6_refuse _ _ _ hc) rfl rfl (Nat.le_of_ble_eq_true rfl) rfl rfl ?_
    refine J_pop (pc := 77) X rfl dX6_readTongue_77 ?_
    refine J_iconst (pc := 78) X (v := (-1)) (by decide) dX6_readTongue_78 ?_
    refine J_aload_n (pc := 79) X (j := 0) (i := 0) rfl rfl dX6_readTongue_79 ?_
    refine J_getI (pc := 80) X ly4 fl_6_42 dX6_readTongue_80 ?_
    refine J_isub (pc := 83) X dX6_readTongue_83 ?_
    obtain rfl := Option.some.inj hq
    exact J_iret (pc := 84) X dX6_readTongue_84
theorem tf_X6_readTongue {κ : Kx} (X : OK κ cX6_readTongue 4 (some .int) "StruckWords$Reader" 6) (x1 : Nat) (x2 : Nat) (h : Hp) (q : (Int32 × Hp)) (lx1 : lay x1 = some (.inl 5)) (lx2 : lay x2 = some (.inl 8)) (hq : f_X6_readTongue x1 x2 h = some q) : J κ 0 [(0, .inr (.inr 4)), (1, .inr (.inr x1)), (2, .inr (.inr x2))] [] h (some (.inl q.1), q.2) := by
  delta f_X6_readTongue at hq
  refine J_aload_n (pc := 0) X (j := 0) (i := 0) rfl rfl dX6_readTongue_0 ?_
  refine J_aload_n (pc := 1) X (j := 1) (i := 1) rfl rfl dX6_readTongue_1 ?_
  refine J_aload_n (pc := 2) X (j := 2) (i := 2) rfl rfl dX6_readTongue_2 ?_
  refine J_sipush (pc := 3) X (v := 900) (by decide) dX6_readTongue_3 ?_
  obtain ⟨h1, hc, hq⟩ := bnv_e hq
  refine J_callV (pc := 6) (as := [.inr (.inr x1), .inr (.inr x2), .inl 900]) (st := []) (st2 := []) (r1 := (none, h1)) (h2 := h1) (ky := 4) X dX6_readTongue_6 ca_X6_begin ci_X6_begin cs_X6_begin ml_6_18 (by decide) ly4 rfl rfl (m_X6_begin _ _ _ _ _ lx1 lx2 hc) rfl rfl (Nat.le_of_ble_eq_true rfl) rfl rfl ?_
  refine J_aload_n (pc := 9) X (j := 2) (i := 2) rfl rfl dX6_readTongue_9 ?_
  obtain ⟨h2, hc, hq⟩ := bnv_e hq
  refine J_callV (pc := 10) (as := []) (st := []) (st2 := []) (r1 := (none, h2)) (h2 := h2) (ky := 2) X dX6_readTongue_10 ca_X10_clear ci_X10_clear cs_X10_clear ml_6_22 (by decide) lx2 rfl rfl (m_X10_clear _ _ _ lx2 hc) rfl rfl (Nat.le_of_ble_eq_true rfl) rfl rfl ?_
  refine J_aload_n (pc := 13) X (j := 0) (i := 0) rfl rfl dX6_readTongue_13 ?_
  refine J_iconst (pc := 14) X (v := 0) (by decide) dX6_readTongue_14 ?_
  refine J_putZ (pc := 15) X ly4 fp_6_27 (by decide) dX6_readTongue_15 ?_
  refine J_ltH hq (fun h3 hq => ?_)
  refine J_aload_n (pc := 18) X (j := 0) (i := 0) rfl rfl dX6_readTongue_18 ?_
  refine J_iconst (pc := 19) X (v := 0) (by decide) dX6_readTongue_19 ?_
  refine J_putI (pc := 20) X ly4 fp_6_31 dX6_readTongue_20 ?_
  refine J_ltH hq (fun h4 hq => ?_)
  refine J_iconst (pc := 23) X (v := 0) (by decide) dX6_readTongue_23 ?_
  refine J_istore_n (pc := 24) X (L' := [(3, .inl 0), (0, .inr (.inr 4)), (1, .inr (.inr x1)), (2, .inr (.inr x2))]) (i := 3) rfl (by decide) rfl dX6_readTongue_24 ?_
  refine J_sub [1, 3, 0] rfl ?_
  refine tL_X6_readTongue_25 X _ _ _ N0 _ _ _ lx2 ?_ ?_ hq
  · intro h10 q hq
    refine J_iconst (pc := 49) X (v := (-1)) (by decide) dX6_readTongue_49 ?_
    refine J_aload_n (pc := 50) X (j := 0) (i := 0) rfl rfl dX6_readTongue_50 ?_
    refine J_getI (pc := 51) X ly4 fl_6_42 dX6_readTongue_51 ?_
    refine J_isub (pc := 54) X dX6_readTongue_54 ?_
    obtain rfl := Option.some.inj hq
    exact J_iret (pc := 55) X dX6_readTongue_55
  · intro v12 h11 q hq
    exact tB_X6_readTongue_62 X _ _ _ _ lx2 hq
theorem m_X6_readTongue (x1 : Nat) (x2 : Nat) (h : Hp) (q : (Int32 × Hp)) (lx1 : lay x1 = some (.inl 5)) (lx2 : lay x2 = some (.inl 8)) (hq : f_X6_readTongue x1 x2 h = some q) : ∀ l w, CT l w yX6_readTongue cX6_readTongue 4 (some .int) 6 [.inr (.inr 4), .inr (.inr x1), .inr (.inr x2)] h (some (.inl q.1), q.2) :=
  CT_of (L0 := [(0, .inr (.inr 4)), (1, .inr (.inr x1)), (2, .inr (.inr x2))]) (by decide) rfl (Nat.le_of_ble_eq_true rfl) (fun κ X => tf_X6_readTongue X x1 x2 h q lx1 lx2 hq)
theorem tB_X6_readText_76 {κ : Kx} (X : OK κ cX6_readText 6 (some .int) "StruckWords$Reader" 5) (x2 : Nat) (x3 : Nat) (k69 : Hp → Option (Int32 × Hp)) (k95 : Hp → Option (Int32 × Hp)) (self : Int32 → Hp → Option (Int32 × Hp)) (x4 : Int32) (x5 : Int32) (h : Hp) (q : (Int32 × Hp)) (lx2 : lay x2 = some (.inl 8)) (lx3 : lay x3 = some (.inl 5)) (hk69 : ∀ (h : Hp) (q : (Int32 × Hp)), k69 h = some q → J κ 69 [(0, .inr (.inr 4))] [] h (some (.inl q.1), q.2)) (hk95 : ∀ (h : Hp) (q : (Int32 × Hp)), k95 h = some q → J κ 95 [(0, .inr (.inr 4)), (3, .inr (.inr x3))] [] h (some (.inl q.1), q.2)) (hself : ∀ (x4 : Int32) (h : Hp) (q : (Int32 × Hp)), self x4 h = some q → J κ 17 [(0, .inr (.inr 4)), (2, .inr (.inr x2)), (3, .inr (.inr x3)), (4, .inl x4)] [] h (some (.inl q.1), q.2)) (hq : B_X6_readText_76 x2 x3 k69 k95 self x4 x5 h = some q) : J κ 76 [(0, .inr (.inr 4)), (2, .inr (.inr x2)), (3, .inr (.inr x3)), (4, .inl x4), (5, .inl x5)] [] h (some (.inl q.1), q.2) := by
  delta B_X6_readText_76 at hq
  refine J_aload_n (pc := 76) X (j := 2) (i := 3) rfl rfl dX6_readText_76 ?_
  refine J_iload (pc := 77) X (j := 4) rfl dX6_readText_77 ?_
  obtain ⟨h9, hc, hq⟩ := bnv_e hq
  refine J_callV (pc := 79) (as := [.inl x5]) (st := []) (st2 := []) (r1 := (none, h9)) (h2 := h9) (ky := 1) X dX6_readText_79 ca_X7_put ci_X7_put cs_X7_put ml_6_67 (by decide) lx3 rfl rfl (m_X7_put _ _ _ _ lx3 hc) rfl rfl (Nat.le_of_ble_eq_true rfl) rfl rfl ?_
  refine J_aload_n (pc := 82) X (j := 0) (i := 0) rfl rfl dX6_readText_82 ?_
  refine J_getF (pc := 83) X (b := 5) ly4 fl_6_12 rfl dX6_readText_83 ?_
  obtain ⟨h10, hc, hq⟩ := bnv_e hq
  refine J_callV (pc := 86) (as := []) (st := []) (st2 := []) (r1 := (none, h10)) (h2 := h10) (ky := 2) X dX6_readText_86 ca_X9_advance ci_X9_advance cs_X9_advance ml_6_71 (by decide) ly5 rfl rfl (m_X9_advance _ _ hc) rfl rfl (Nat.le_of_ble_eq_true rfl) rfl rfl ?_
  refine J_iinc (pc := 89) X (j := 3) (v := 1) (L' := [(4, .inl (x4 + 1)), (0, .inr (.inr 4)), (2, .inr (.inr x2)), (3, .inr (.inr x3)), (5, .inl x5)]) rfl (by decide) (by decide) rfl dX6_readText_89 ?_
  refine J_goto (pc := 92) X (tgt := 17) dX6_readText_92 rfl ?_
  refine J_sub [1, 2, 3, 0] rfl ?_
  exact hself _ _ _ hq
theorem tF_X6_readText_17 {κ : Kx} (X : OK κ cX6_readText 6 (some .int) "StruckWords$Reader" 5) (x2 : Nat) (x3 : Nat) (k69 : Hp → Option (Int32 × Hp)) (k95 : Hp → Option (Int32 × Hp)) (self : Int32 → Hp → Option (Int32 × Hp)) (x4 : Int32) (h : Hp) (q : (Int32 × Hp)) (lx2 : lay x2 = some (.inl 8)) (lx3 : lay x3 = some (.inl 5)) (hk69 : ∀ (h : Hp) (q : (Int32 × Hp)), k69 h = some q → J κ 69 [(0, .inr (.inr 4))] [] h (some (.inl q.1), q.2)) (hk95 : ∀ (h : Hp) (q : (Int32 × Hp)), k95 h = some q → J κ 95 [(0, .inr (.inr 4)), (3, .inr (.inr x3))] [] h (some (.inl q.1), q.2)) (hself : ∀ (x4 : Int32) (h : Hp) (q : (Int32 × Hp)), self x4 h = some q → J κ 17 [(0, .inr (.inr 4)), (2, .inr (.inr x2)), (3, .inr (.inr x3)), (4, .inl x4)] [] h (some (.inl q.1), q.2)) (hq : F_X6_readText_17 x2 x3 k69 k95 self x4 h = some q) : J κ 17 [(0, .inr (.inr 4)), (2, .inr (.inr x2)), (3, .inr (.inr x3)), (4, .inl x4)] [] h (some (.inl q.1), q.2) := by
  delta F_X6_readText_17 at hq
  refine J_iload (pc := 17) X (j := 3) rfl dX6_readText_17 ?_
  refine J_sipush (pc := 19) X (v := 200) (by decide) dX6_readText_19 ?_
  refine J_icmp_ge (pc := 22) (tgt := 95) X dX6_readText_22 rfl (fun c3 => ?_) (fun c3 => ?_)
  · have hq := ite_t hq c3
    refine J_sub [0, 2] rfl ?_
    exact hk95 _ _ hq
  · have hq := ite_f hq c3
    refine J_aload_n (pc := 25) X (j := 0) (i := 0) rfl rfl dX6_readText_25 ?_
    refine J_getF (pc := 26) X (b := 5) ly4 fl_6_12 rfl dX6_readText_26 ?_
    refine J_getI (pc := 29) X ly5 fl_6_35 dX6_readText_29 ?_
    refine J_if_eq (pc := 32) (tgt := 95) X dX6_readText_32 rfl (fun c4 => ?_) (fun c4 => ?_)
    · have hq := ite_t hq c4
      refine J_sub [0, 2] rfl ?_
      exact hk95 _ _ hq
    · have hq := ite_f hq c4
      refine J_aload_n (pc := 35) X (j := 0) (i := 0) rfl rfl dX6_readText_35 ?_
      refine J_bipush (pc := 36) X (v := 8) (by decide) dX6_readText_36 ?_
      refine J_aload_n (pc := 38) X (j := 1) (i := 2) rfl rfl dX6_readText_38 ?_
      refine J_getI (pc := 39) X lx2 fl_6_60 dX6_readText_39 ?_
      obtain ⟨v6, h5, hc, hq⟩ := bnd_e hq
      refine J_callV (pc := 42) (as := [.inl 8, .inl (h.1 x2 2)]) (st := []) (st2 := [.inl v6]) (r1 := (some (.inl v6), h5)) (h2 := h5) (ky := 2) X dX6_readText_42 ca_X6_toldHere ci_X6_toldHere cs_X6_toldHere ml_6_63 (by decide) ly4 rfl rfl (m_X6_toldHere _ _ _ _ hc) rfl rfl (Nat.le_of_ble_eq_true rfl) rfl rfl ?_
      refine J_istore (pc := 45) X (L' := [(5, .inl v6), (0, .inr (.inr 4)), (2, .inr (.inr x2)), (3, .inr (.inr x3)), (4, .inl x4)]) (by decide) rfl dX6_readText_45 ?_
      refine J_iload (pc := 47) X (j := 0) rfl dX6_readText_47 ?_
      refine J_if_lt (pc := 49) (tgt := 69) X dX6_readText_49 rfl (fun c7 => ?_) (fun c7 => ?_)
      · have hq := ite_t hq c7
        refine J_sub [1] rfl ?_
        exact hk69 _ _ hq
      · have hq := ite_f hq c7
        refine J_aload_n (pc := 52) X (j := 3) (i := 3) rfl rfl dX6_readText_52 ?_
        refine J_getI (pc := 53) X lx3 fl_6_55 dX6_readText_53 ?_
        refine J_bipush (pc := 56) X (v := 24) (by decide) dX6_readText_56 ?_
        refine J_icmp_lt (pc := 58) (tgt := 76) X dX6_readText_58 rfl (fun c8 => ?_) (fun c8 => ?_)
        · have hq := ite_t hq c8
          refine J_sub [1, 2, 3, 4, 0] rfl ?_
          exact tB_X6_readText_76 X _ _ _ _ _ _ _ _ _ lx2 lx3 hk69 hk95 hself hq
        · have hq := ite_f hq c8
          refine J_aload_n (pc := 61) X (j := 1) (i := 0) rfl rfl dX6_readText_61 ?_
          refine J_iconst (pc := 62) X (v := 4) (by decide) dX6_readText_62 ?_
          obtain ⟨v12, h11, hc, hq⟩ := bnd_e hq
          refine J_callV (pc := 63) (as := [.inl 4]) (st := []) (st2 := [.inl v12]) (r1 := (some (.inl v12), h11)) (h2 := h11) (ky := 1) X dX6_readText_63 ca_X6_refuse ci_X6_refuse cs_X6_refuse ml_6_48 (by decide) ly4 rfl rfl (m_X6_refuse _ _ _ hc) rfl rfl (Nat.le_of_ble_eq_true rfl) rfl rfl ?_
          refine J_if_ne (pc := 66) (tgt := 76) X dX6_readText_66 rfl (fun c13 => ?_) (fun c13 => ?_)
          · have hq := ite_f hq c13
            refine J_sub [1, 2, 3, 4, 0] rfl ?_
            exact tB_X6_readText_76 X _ _ _ _ _ _ _ _ _ lx2 lx3 hk69 hk95 hself hq
          · have hq := ite_t hq c13
            refine J_sub [1] rfl ?_
            exact hk69 _ _ hq
theorem tL_X6_readText_17 {κ : Kx} (X : OK κ cX6_readText 6 (some .int) "StruckWords$Reader" 5) (x2 : Nat) (x3 : Nat) (k69 : Hp → Option (Int32 × Hp)) (k95 : Hp → Option (Int32 × Hp)) (N : Nat) (x4 : Int32) (h : Hp) (q : (Int32 × Hp)) (lx2 : lay x2 = some (.inl 8)) (lx3 : lay x3 = some (.inl 5)) (hk69 : ∀ (h : Hp) (q : (Int32 × Hp)), k69 h = some q → J κ 69 [(0, .inr (.inr 4))] [] h (some (.inl q.1), q.2)) (hk95 : ∀ (h : Hp) (q : (Int32 × Hp)), k95 h = some q → J κ 95 [(0, .inr (.inr 4)), (3, .inr (.inr x3))] [] h (some (.inl q.1), q.2)) (hq : itr2 (F_X6_readText_17 x2 x3 k69 k95) N x4 h = some q) : J κ 17 [(0, .inr (.inr 4)), (2, .inr (.inr x2)), (3, .inr (.inr x3)), (4, .inl x4)] [] h (some (.inl q.1), q.2) :=
  itr2_ind (fun self hs x4 h q hq => tF_X6_readText_17 X x2 x3 k69 k95 self x4 h q lx2 lx3 hk69 hk95 hs hq) N x4 h q hq
theorem tB_X6_readText_95 {κ : Kx} (X : OK κ cX6_readText 6 (some .int) "StruckWords$Reader" 5) (x3 : Nat) (h : Hp) (q : (Int32 × Hp)) (lx3 : lay x3 = some (.inl 5)) (hq : B_X6_readText_95 x3 h = some q) : J κ 95 [(0, .inr (.inr 4)), (3, .inr (.inr x3))] [] h (some (.inl q.1), q.2) := by
  delta B_X6_readText_95 at hq
  refine J_aload_n (pc := 95) X (j := 0) (i := 0) rfl rfl dX6_readText_95 ?_
  refine J_getF (pc := 96) X (b := 5) ly4 fl_6_12 rfl dX6_readText_96 ?_
  obtain ⟨v17, h16, hc, hq⟩ := bnd_e hq
  refine J_callV (pc := 99) (as := []) (st := []) (st2 := [.inl v17]) (r1 := (some (.inl v17), h16)) (h2 := h16) (ky := 1) X dX6_readText_99 ca_X9_isTooLong ci_X9_isTooLong cs_X9_isTooLong ml_6_45 (by decide) ly5 rfl rfl (m_X9_isTooLong _ _ hc) rfl rfl (Nat.le_of_ble_eq_true rfl) rfl rfl ?_
  refine J_if_eq (pc := 102) (tgt := 118) X dX6_readText_102 rfl (fun c18 => ?_) (fun c18 => ?_)
  · have hq := ite_t hq c18
    refine J_aload_n (pc := 118) X (j := 1) (i := 3) rfl rfl dX6_readText_118 ?_
    refine J_getI (pc := 119) X lx3 fl_6_55 dX6_readText_119 ?_
    obtain rfl := Option.some.inj hq
    exact J_iret (pc := 122) X dX6_readText_122
  · have hq := ite_f hq c18
    refine J_aload_n (pc := 105) X (j := 0) (i := 0) rfl rfl dX6_readText_105 ?_
    refine J_iconst (pc := 106) X (v := 1) (by decide) dX6_readText_106 ?_
    obtain ⟨v20, h19, hc, hq⟩ := bnd_e hq
    refine J_callV (pc := 107) (as := [.inl 1]) (st := []) (st2 := [.inl v20]) (r1 := (some (.inl v20), h19)) (h2 := h19) (ky := 1) X dX6_readText_107 ca_X6_refuse ci_X6_refuse cs_X6_refuse ml_6_48 (by decide) ly4 rfl rfl (m_X6_refuse _ _ _ hc) rfl rfl (Nat.le_of_ble_eq_true rfl) rfl rfl ?_
    refine J_pop (pc := 110) X rfl dX6_readText_110 ?_
    refine J_iconst (pc := 111) X (v := (-1)) (by decide) dX6_readText_111 ?_
    refine J_aload_n (pc := 112) X (j := 0) (i := 0) rfl rfl dX6_readText_112 ?_
    refine J_getI (pc := 113) X ly4 fl_6_42 dX6_readText_113 ?_
    refine J_isub (pc := 116) X dX6_readText_116 ?_
    obtain rfl := Option.some.inj hq
    exact J_iret (pc := 117) X dX6_readText_117
theorem tf_X6_readText {κ : Kx} (X : OK κ cX6_readText 6 (some .int) "StruckWords$Reader" 5) (x1 : Nat) (x2 : Nat) (x3 : Nat) (h : Hp) (q : (Int32 × Hp)) (lx1 : lay x1 = some (.inl 5)) (lx2 : lay x2 = some (.inl 8)) (lx3 : lay x3 = some (.inl 5)) (hq : f_X6_readText x1 x2 x3 h = some q) : J κ 0 [(0, .inr (.inr 4)), (1, .inr (.inr x1)), (2, .inr (.inr x2)), (3, .inr (.inr x3))] [] h (some (.inl q.1), q.2) := by
  delta f_X6_readText at hq
  refine J_aload_n (pc := 0) X (j := 0) (i := 0) rfl rfl dX6_readText_0 ?_
  refine J_aload_n (pc := 1) X (j := 1) (i := 1) rfl rfl dX6_readText_1 ?_
  refine J_aload_n (pc := 2) X (j := 2) (i := 2) rfl rfl dX6_readText_2 ?_
  refine J_sipush (pc := 3) X (v := 200) (by decide) dX6_readText_3 ?_
  obtain ⟨h1, hc, hq⟩ := bnv_e hq
  refine J_callV (pc := 6) (as := [.inr (.inr x1), .inr (.inr x2), .inl 200]) (st := []) (st2 := []) (r1 := (none, h1)) (h2 := h1) (ky := 4) X dX6_readText_6 ca_X6_begin ci_X6_begin cs_X6_begin ml_6_18 (by decide) ly4 rfl rfl (m_X6_begin _ _ _ _ _ lx1 lx2 hc) rfl rfl (Nat.le_of_ble_eq_true rfl) rfl rfl ?_
  refine J_aload_n (pc := 9) X (j := 3) (i := 3) rfl rfl dX6_readText_9 ?_
  refine J_iconst (pc := 10) X (v := 0) (by decide) dX6_readText_10 ?_
  refine J_putI (pc := 11) X lx3 fp_6_55 dX6_readText_11 ?_
  refine J_ltH hq (fun h2 hq => ?_)
  refine J_iconst (pc := 14) X (v := 0) (by decide) dX6_readText_14 ?_
  refine J_istore (pc := 15) X (L' := [(4, .inl 0), (0, .inr (.inr 4)), (1, .inr (.inr x1)), (2, .inr (.inr x2)), (3, .inr (.inr x3))]) (by decide) rfl dX6_readText_15 ?_
  refine J_sub [1, 3, 4, 0] rfl ?_
  refine tL_X6_readText_17 X _ _ _ _ N0 _ _ _ lx2 lx3 ?_ ?_ hq
  · intro h14 q hq
    refine J_iconst (pc := 69) X (v := (-1)) (by decide) dX6_readText_69 ?_
    refine J_aload_n (pc := 70) X (j := 0) (i := 0) rfl rfl dX6_readText_70 ?_
    refine J_getI (pc := 71) X ly4 fl_6_42 dX6_readText_71 ?_
    refine J_isub (pc := 74) X dX6_readText_74 ?_
    obtain rfl := Option.some.inj hq
    exact J_iret (pc := 75) X dX6_readText_75
  · intro h15 q hq
    exact tB_X6_readText_95 X _ _ _ lx3 hq
theorem m_X6_readText (x1 : Nat) (x2 : Nat) (x3 : Nat) (h : Hp) (q : (Int32 × Hp)) (lx1 : lay x1 = some (.inl 5)) (lx2 : lay x2 = some (.inl 8)) (lx3 : lay x3 = some (.inl 5)) (hq : f_X6_readText x1 x2 x3 h = some q) : ∀ l w, CT l w yX6_readText cX6_readText 6 (some .int) 5 [.inr (.inr 4), .inr (.inr x1), .inr (.inr x2), .inr (.inr x3)] h (some (.inl q.1), q.2) :=
  CT_of (L0 := [(0, .inr (.inr 4)), (1, .inr (.inr x1)), (2, .inr (.inr x2)), (3, .inr (.inr x3))]) (by decide) rfl (Nat.le_of_ble_eq_true rfl) (fun κ X => tf_X6_readText X x1 x2 x3 h q lx1 lx2 lx3 hq)
theorem tf_X8_mayStandAt {κ : Kx} (X : OK κ cX8_mayStandAt 3 (some .boolean) "StruckWords$Tear" 1) (x1 : Int32) (x2 : Int32) (h : Hp) (q : (Int32 × Hp)) (hq : f_X8_mayStandAt x1 x2 h = some q) : J κ 0 [(0, .inr (.inr 133)), (1, .inl x1), (2, .inl x2)] [] h (some (.inl q.1), q.2) := by
  delta f_X8_mayStandAt at hq
  refine J_aload_n (pc := 0) X (j := 0) (i := 0) rfl rfl dX8_mayStandAt_0 ?_
  refine J_getF (pc := 1) X (b := 136) ly133 fl_8_20 rfl dX8_mayStandAt_1 ?_
  refine J_iload_n (pc := 4) X (j := 1) (i := 1) rfl rfl dX8_mayStandAt_4 ?_
  obtain ⟨g1, hq⟩ := gd hq
  refine J_iaload (pc := 5) X ly136 g1 dX8_mayStandAt_5 ?_
  refine J_iconst (pc := 6) X (v := (-1)) (by decide) dX8_mayStandAt_6 ?_
  refine J_icmp_eq (pc := 7) (tgt := 20) X dX8_mayStandAt_7 rfl (fun c2 => ?_) (fun c2 => ?_)
  · have hq := ite_t hq c2
    refine J_iconst (pc := 20) X (v := 1) (by decide) dX8_mayStandAt_20 ?_
    refine J_goto (pc := 21) X (tgt := 25) dX8_mayStandAt_21 rfl ?_
    obtain rfl := Option.some.inj hq
    exact J_zret (pc := 25) X (by decide) dX8_mayStandAt_25
  · have hq := ite_f hq c2
    refine J_aload_n (pc := 10) X (j := 0) (i := 0) rfl rfl dX8_mayStandAt_10 ?_
    refine J_getF (pc := 11) X (b := 136) ly133 fl_8_20 rfl dX8_mayStandAt_11 ?_
    refine J_iload_n (pc := 14) X (j := 1) (i := 1) rfl rfl dX8_mayStandAt_14 ?_
    obtain ⟨g3, hq⟩ := gd hq
    refine J_iaload (pc := 15) X ly136 g3 dX8_mayStandAt_15 ?_
    refine J_iload_n (pc := 16) X (j := 2) (i := 2) rfl rfl dX8_mayStandAt_16 ?_
    refine J_icmp_ne (pc := 17) (tgt := 24) X dX8_mayStandAt_17 rfl (fun c4 => ?_) (fun c4 => ?_)
    · have hq := ite_f hq c4
      refine J_iconst (pc := 24) X (v := 0) (by decide) dX8_mayStandAt_24 ?_
      obtain rfl := Option.some.inj hq
      exact J_zret (pc := 25) X (by decide) dX8_mayStandAt_25
    · have hq := ite_t hq c4
      refine J_iconst (pc := 20) X (v := 1) (by decide) dX8_mayStandAt_20 ?_
      refine J_goto (pc := 21) X (tgt := 25) dX8_mayStandAt_21 rfl ?_
      obtain rfl := Option.some.inj hq
      exact J_zret (pc := 25) X (by decide) dX8_mayStandAt_25
theorem m_X8_mayStandAt (x1 : Int32) (x2 : Int32) (h : Hp) (q : (Int32 × Hp)) (hq : f_X8_mayStandAt x1 x2 h = some q) : ∀ l w, CT l w yX8_mayStandAt cX8_mayStandAt 3 (some .boolean) 1 [.inr (.inr 133), .inl x1, .inl x2] h (some (.inl q.1), q.2) :=
  CT_of (L0 := [(0, .inr (.inr 133)), (1, .inl x1), (2, .inl x2)]) (by decide) rfl (Nat.le_of_ble_eq_true rfl) (fun κ X => tf_X8_mayStandAt X x1 x2 h q  hq)
theorem tF_X8_sortsBehind_20 {κ : Kx} (X : OK κ cX8_sortsBehind 6 (some .int) "StruckWords$Tear" 2) (x1 : Int32) (x2 : Int32) (x4 : Int32) (k75 : Int32 → Hp → Option (Int32 × Hp)) (self : Int32 → Int32 → Hp → Option (Int32 × Hp)) (x3 : Int32) (x5 : Int32) (h : Hp) (q : (Int32 × Hp)) (hk75 : ∀ (x3 : Int32) (h : Hp) (q : (Int32 × Hp)), k75 x3 h = some q → J κ 75 [(0, .inr (.inr 133)), (1, .inl x1), (2, .inl x2), (3, .inl x3), (4, .inl x4)] [] h (some (.inl q.1), q.2)) (hself : ∀ (x3 : Int32) (x5 : Int32) (h : Hp) (q : (Int32 × Hp)), self x3 x5 h = some q → J κ 20 [(0, .inr (.inr 133)), (1, .inl x1), (2, .inl x2), (3, .inl x3), (4, .inl x4), (5, .inl x5)] [] h (some (.inl q.1), q.2)) (hq : F_X8_sortsBehind_20 x1 x2 x4 k75 self x3 x5 h = some q) : J κ 20 [(0, .inr (.inr 133)), (1, .inl x1), (2, .inl x2), (3, .inl x3), (4, .inl x4), (5, .inl x5)] [] h (some (.inl q.1), q.2) := by
  delta F_X8_sortsBehind_20 at hq
  refine J_iload (pc := 20) X (j := 5) rfl dX8_sortsBehind_20 ?_
  refine J_iconst (pc := 22) X (v := 5) (by decide) dX8_sortsBehind_22 ?_
  refine J_icmp_gt (pc := 23) (tgt := 75) X dX8_sortsBehind_23 rfl (fun c4 => ?_) (fun c4 => ?_)
  · have hq := ite_t hq c4
    refine J_sub [0, 1, 2, 3, 4] rfl ?_
    exact hk75 _ _ _ hq
  · have hq := ite_f hq c4
    refine J_aload_n (pc := 26) X (j := 0) (i := 0) rfl rfl dX8_sortsBehind_26 ?_
    refine J_getR (pc := 27) X ly133 fl_8_38 dX8_sortsBehind_27 ?_
    refine J_ltR hq (fun r5 hq => ?_)
    obtain ⟨g6, hq⟩ := gd hq
    refine J_iload_n (pc := 30) X (j := 2) (i := 2) rfl rfl dX8_sortsBehind_30 ?_
    refine J_iload (pc := 31) X (j := 4) rfl dX8_sortsBehind_31 ?_
    obtain ⟨v8, h7, hc, hq⟩ := bnd_e hq
    refine J_callV (pc := 33) (as := [.inl x2, .inl x4]) (st := []) (st2 := [.inl v8]) (r1 := (some (.inl v8), h7)) (h2 := h7) (ky := 1) X dX8_sortsBehind_33 ca_X10_readsAs ci_X10_readsAs cs_X10_readsAs ml_8_118 (by decide) (isO_lay g6) rfl rfl (m_X10_readsAs _ _ _ _ _ (isO_lay g6) hc) rfl rfl (Nat.le_of_ble_eq_true rfl) rfl rfl ?_
    refine J_if_eq (pc := 36) (tgt := 75) X dX8_sortsBehind_36 rfl (fun c9 => ?_) (fun c9 => ?_)
    · have hq := ite_t hq c9
      refine J_sub [0, 1, 2, 3, 4] rfl ?_
      exact hk75 _ _ _ hq
    · have hq := ite_f hq c9
      refine J_iload_n (pc := 39) X (j := 1) (i := 1) rfl rfl dX8_sortsBehind_39 ?_
      refine J_iload (pc := 40) X (j := 5) rfl dX8_sortsBehind_40 ?_
      refine J_ishr (pc := 42) X dX8_sortsBehind_42 ?_
      refine J_iconst (pc := 43) X (v := 1) (by decide) dX8_sortsBehind_43 ?_
      refine J_iand (pc := 44) X dX8_sortsBehind_44 ?_
      refine J_if_eq (pc := 45) (tgt := 69) X dX8_sortsBehind_45 rfl (fun c10 => ?_) (fun c10 => ?_)
      · have hq := ite_t hq c10
        refine J_iinc (pc := 69) X (j := 5) (v := 1) (L' := [(5, .inl (x5 + 1)), (0, .inr (.inr 133)), (1, .inl x1), (2, .inl x2), (3, .inl x3), (4, .inl x4)]) rfl (by decide) (by decide) rfl dX8_sortsBehind_69 ?_
        refine J_goto (pc := 72) X (tgt := 20) dX8_sortsBehind_72 rfl ?_
        refine J_sub [1, 2, 3, 4, 5, 0] rfl ?_
        exact hself _ _ _ _ hq
      · have hq := ite_f hq c10
        refine J_aload_n (pc := 48) X (j := 0) (i := 0) rfl rfl dX8_sortsBehind_48 ?_
        refine J_getR (pc := 49) X ly133 fl_8_38 dX8_sortsBehind_49 ?_
        refine J_ltR hq (fun r11 hq => ?_)
        obtain ⟨g12, hq⟩ := gd hq
        refine J_iload (pc := 52) X (j := 5) rfl dX8_sortsBehind_52 ?_
        refine J_iload (pc := 54) X (j := 4) rfl dX8_sortsBehind_54 ?_
        obtain ⟨v14, h13, hc, hq⟩ := bnd_e hq
        refine J_callV (pc := 56) (as := [.inl x5, .inl x4]) (st := []) (st2 := [.inl v14]) (r1 := (some (.inl v14), h13)) (h2 := h13) (ky := 1) X dX8_sortsBehind_56 ca_X10_mayFollow ci_X10_mayFollow cs_X10_mayFollow ml_8_115 (by decide) (isO_lay g12) rfl rfl (m_X10_mayFollow _ _ _ _ _ (isO_lay g12) hc) rfl rfl (Nat.le_of_ble_eq_true rfl) rfl rfl ?_
        refine J_if_eq (pc := 59) (tgt := 69) X dX8_sortsBehind_59 rfl (fun c15 => ?_) (fun c15 => ?_)
        · have hq := ite_t hq c15
          refine J_iinc (pc := 69) X (j := 5) (v := 1) (L' := [(5, .inl (x5 + 1)), (0, .inr (.inr 133)), (1, .inl x1), (2, .inl x2), (3, .inl x3), (4, .inl x4)]) rfl (by decide) (by decide) rfl dX8_sortsBehind_69 ?_
          refine J_goto (pc := 72) X (tgt := 20) dX8_sortsBehind_72 rfl ?_
          refine J_sub [1, 2, 3, 4, 5, 0] rfl ?_
          exact hself _ _ _ _ hq
        · have hq := ite_f hq c15
          refine J_iload_n (pc := 62) X (j := 3) (i := 3) rfl rfl dX8_sortsBehind_62 ?_
          refine J_iconst (pc := 63) X (v := 1) (by decide) dX8_sortsBehind_63 ?_
          refine J_iload (pc := 64) X (j := 4) rfl dX8_sortsBehind_64 ?_
          refine J_ishl (pc := 66) X dX8_sortsBehind_66 ?_
          refine J_ior (pc := 67) X dX8_sortsBehind_67 ?_
          refine J_ltI hq (fun v16 hq => ?_)
          refine J_istore_n (pc := 68) X (L' := [(3, .inl v16), (0, .inr (.inr 133)), (1, .inl x1), (2, .inl x2), (4, .inl x4), (5, .inl x5)]) (i := 3) rfl (by decide) rfl dX8_sortsBehind_68 ?_
          refine J_iinc (pc := 69) X (j := 5) (v := 1) (L' := [(5, .inl (x5 + 1)), (3, .inl v16), (0, .inr (.inr 133)), (1, .inl x1), (2, .inl x2), (4, .inl x4)]) rfl (by decide) (by decide) rfl dX8_sortsBehind_69 ?_
          refine J_goto (pc := 72) X (tgt := 20) dX8_sortsBehind_72 rfl ?_
          refine J_sub [2, 3, 4, 1, 5, 0] rfl ?_
          exact hself _ _ _ _ hq
theorem tL_X8_sortsBehind_20 {κ : Kx} (X : OK κ cX8_sortsBehind 6 (some .int) "StruckWords$Tear" 2) (x1 : Int32) (x2 : Int32) (x4 : Int32) (k75 : Int32 → Hp → Option (Int32 × Hp)) (N : Nat) (x3 : Int32) (x5 : Int32) (h : Hp) (q : (Int32 × Hp)) (hk75 : ∀ (x3 : Int32) (h : Hp) (q : (Int32 × Hp)), k75 x3 h = some q → J κ 75 [(0, .inr (.inr 133)), (1, .inl x1), (2, .inl x2), (3, .inl x3), (4, .inl x4)] [] h (some (.inl q.1), q.2)) (hq : itr3 (F_X8_sortsBehind_20 x1 x2 x4 k75) N x3 x5 h = some q) : J κ 20 [(0, .inr (.inr 133)), (1, .inl x1), (2, .inl x2), (3, .inl x3), (4, .inl x4), (5, .inl x5)] [] h (some (.inl q.1), q.2) :=
  itr3_ind (fun self hs x3 x5 h q hq => tF_X8_sortsBehind_20 X x1 x2 x4 k75 self x3 x5 h q hk75 hs hq) N x3 x5 h q hq
theorem tF_X8_sortsBehind_5 {κ : Kx} (X : OK κ cX8_sortsBehind 6 (some .int) "StruckWords$Tear" 2) (x1 : Int32) (x2 : Int32) (k81 : Int32 → Hp → Option (Int32 × Hp)) (self : Int32 → Int32 → Hp → Option (Int32 × Hp)) (x3 : Int32) (x4 : Int32) (h : Hp) (q : (Int32 × Hp)) (hk81 : ∀ (x3 : Int32) (h : Hp) (q : (Int32 × Hp)), k81 x3 h = some q → J κ 81 [(3, .inl x3)] [] h (some (.inl q.1), q.2)) (hself : ∀ (x3 : Int32) (x4 : Int32) (h : Hp) (q : (Int32 × Hp)), self x3 x4 h = some q → J κ 5 [(0, .inr (.inr 133)), (1, .inl x1), (2, .inl x2), (3, .inl x3), (4, .inl x4)] [] h (some (.inl q.1), q.2)) (hq : F_X8_sortsBehind_5 x1 x2 k81 self x3 x4 h = some q) : J κ 5 [(0, .inr (.inr 133)), (1, .inl x1), (2, .inl x2), (3, .inl x3), (4, .inl x4)] [] h (some (.inl q.1), q.2) := by
  delta F_X8_sortsBehind_5 at hq
  refine J_iload (pc := 5) X (j := 4) rfl dX8_sortsBehind_5 ?_
  refine J_aload_n (pc := 7) X (j := 0) (i := 0) rfl rfl dX8_sortsBehind_7 ?_
  refine J_getR (pc := 8) X ly133 fl_8_38 dX8_sortsBehind_8 ?_
  refine J_ltR hq (fun r1 hq => ?_)
  obtain ⟨g2, hq⟩ := gd hq
  refine J_getI (pc := 11) X (isO_lay g2) fl_8_112 dX8_sortsBehind_11 ?_
  refine J_icmp_ge (pc := 14) (tgt := 81) X dX8_sortsBehind_14 rfl (fun c3 => ?_) (fun c3 => ?_)
  · have hq := ite_t hq c3
    refine J_sub [3] rfl ?_
    exact hk81 _ _ _ hq
  · have hq := ite_f hq c3
    refine J_iconst (pc := 17) X (v := 0) (by decide) dX8_sortsBehind_17 ?_
    refine J_istore (pc := 18) X (L' := [(5, .inl 0), (0, .inr (.inr 133)), (1, .inl x1), (2, .inl x2), (3, .inl x3), (4, .inl x4)]) (by decide) rfl dX8_sortsBehind_18 ?_
    refine J_sub [1, 2, 3, 4, 5, 0] rfl ?_
    refine tL_X8_sortsBehind_20 X _ _ _ _ N0 _ _ _ _ ?_ hq
    · intro v18 h17 q hq
      refine J_iinc (pc := 75) X (j := 4) (v := 1) (L' := [(4, .inl (x4 + 1)), (0, .inr (.inr 133)), (1, .inl x1), (2, .inl x2), (3, .inl v18)]) rfl (by decide) (by decide) rfl dX8_sortsBehind_75 ?_
      refine J_goto (pc := 78) X (tgt := 5) dX8_sortsBehind_78 rfl ?_
      refine J_sub [1, 2, 3, 4, 0] rfl ?_
      exact hself _ _ _ _ hq
theorem tL_X8_sortsBehind_5 {κ : Kx} (X : OK κ cX8_sortsBehind 6 (some .int) "StruckWords$Tear" 2) (x1 : Int32) (x2 : Int32) (k81 : Int32 → Hp → Option (Int32 × Hp)) (N : Nat) (x3 : Int32) (x4 : Int32) (h : Hp) (q : (Int32 × Hp)) (hk81 : ∀ (x3 : Int32) (h : Hp) (q : (Int32 × Hp)), k81 x3 h = some q → J κ 81 [(3, .inl x3)] [] h (some (.inl q.1), q.2)) (hq : itr3 (F_X8_sortsBehind_5 x1 x2 k81) N x3 x4 h = some q) : J κ 5 [(0, .inr (.inr 133)), (1, .inl x1), (2, .inl x2), (3, .inl x3), (4, .inl x4)] [] h (some (.inl q.1), q.2) :=
  itr3_ind (fun self hs x3 x4 h q hq => tF_X8_sortsBehind_5 X x1 x2 k81 self x3 x4 h q hk81 hs hq) N x3 x4 h q hq
theorem tf_X8_sortsBehind {κ : Kx} (X : OK κ cX8_sortsBehind 6 (some .int) "StruckWords$Tear" 2) (x1 : Int32) (x2 : Int32) (h : Hp) (q : (Int32 × Hp)) (hq : f_X8_sortsBehind x1 x2 h = some q) : J κ 0 [(0, .inr (.inr 133)), (1, .inl x1), (2, .inl x2)] [] h (some (.inl q.1), q.2) := by
  delta f_X8_sortsBehind at hq
  refine J_iconst (pc := 0) X (v := 0) (by decide) dX8_sortsBehind_0 ?_
  refine J_istore_n (pc := 1) X (L' := [(3, .inl 0), (0, .inr (.inr 133)), (1, .inl x1), (2, .inl x2)]) (i := 3) rfl (by decide) rfl dX8_sortsBehind_1 ?_
  refine J_iconst (pc := 2) X (v := 0) (by decide) dX8_sortsBehind_2 ?_
  refine J_istore (pc := 3) X (L' := [(4, .inl 0), (3, .inl 0), (0, .inr (.inr 133)), (1, .inl x1), (2, .inl x2)]) (by decide) rfl dX8_sortsBehind_3 ?_
  refine J_sub [2, 3, 4, 1, 0] rfl ?_
  refine tL_X8_sortsBehind_5 X _ _ _ N0 _ _ _ _ ?_ hq
  · intro v20 h19 q hq
    refine J_iload_n (pc := 81) X (j := 0) (i := 3) rfl rfl dX8_sortsBehind_81 ?_
    obtain rfl := Option.some.inj hq
    exact J_iret (pc := 82) X dX8_sortsBehind_82
theorem m_X8_sortsBehind (x1 : Int32) (x2 : Int32) (h : Hp) (q : (Int32 × Hp)) (hq : f_X8_sortsBehind x1 x2 h = some q) : ∀ l w, CT l w yX8_sortsBehind cX8_sortsBehind 6 (some .int) 2 [.inr (.inr 133), .inl x1, .inl x2] h (some (.inl q.1), q.2) :=
  CT_of (L0 := [(0, .inr (.inr 133)), (1, .inl x1), (2, .inl x2)]) (by decide) rfl (Nat.le_of_ble_eq_true rfl) (fun κ X => tf_X8_sortsBehind X x1 x2 h q  hq)
theorem tf_X8_weightAt {κ : Kx} (X : OK κ cX8_weightAt 3 (some .long) "StruckWords$Tear" 1) (x1 : Int32) (x2 : Int32) (h : Hp) (q : (Int64 × Hp)) (hq : f_X8_weightAt x1 x2 h = some q) : J κ 0 [(0, .inr (.inr 133)), (1, .inl x1), (2, .inl x2)] [] h (some (.inr (.inl q.1)), q.2) := by
  delta f_X8_weightAt at hq
  refine J_aload_n (pc := 0) X (j := 0) (i := 0) rfl rfl dX8_weightAt_0 ?_
  refine J_getF (pc := 1) X (b := 136) ly133 fl_8_20 rfl dX8_weightAt_1 ?_
  refine J_iload_n (pc := 4) X (j := 1) (i := 1) rfl rfl dX8_weightAt_4 ?_
  obtain ⟨g1, hq⟩ := gd hq
  refine J_iaload (pc := 5) X ly136 g1 dX8_weightAt_5 ?_
  refine J_iconst (pc := 6) X (v := (-1)) (by decide) dX8_weightAt_6 ?_
  refine J_icmp_ne (pc := 7) (tgt := 23) X dX8_weightAt_7 rfl (fun c2 => ?_) (fun c2 => ?_)
  · have hq := ite_f hq c2
    refine J_lconst (pc := 23) X (v := 1) (by decide) dX8_weightAt_23 ?_
    obtain rfl := Option.some.inj hq
    exact J_lret (pc := 24) X dX8_weightAt_24
  · have hq := ite_t hq c2
    refine J_aload_n (pc := 10) X (j := 0) (i := 0) rfl rfl dX8_weightAt_10 ?_
    refine J_getR (pc := 11) X ly133 fl_8_38 dX8_weightAt_11 ?_
    refine J_ltR hq (fun r3 hq => ?_)
    obtain ⟨g4, hq⟩ := gd hq
    refine J_getF (pc := 14) X (b := r3 + 6) (isO_lay g4) fl_8_145 rfl dX8_weightAt_14 ?_
    refine J_iload_n (pc := 17) X (j := 2) (i := 2) rfl rfl dX8_weightAt_17 ?_
    obtain ⟨g5, hq⟩ := gd hq
    refine J_iaload (pc := 18) X (ly_8_6 (isO_lay g4)) g5 dX8_weightAt_18 ?_
    refine J_i2l (pc := 19) X dX8_weightAt_19 ?_
    refine J_goto (pc := 20) X (tgt := 24) dX8_weightAt_20 rfl ?_
    obtain rfl := Option.some.inj hq
    exact J_lret (pc := 24) X dX8_weightAt_24
theorem m_X8_weightAt (x1 : Int32) (x2 : Int32) (h : Hp) (q : (Int64 × Hp)) (hq : f_X8_weightAt x1 x2 h = some q) : ∀ l w, CT l w yX8_weightAt cX8_weightAt 3 (some .long) 1 [.inr (.inr 133), .inl x1, .inl x2] h (some (.inr (.inl q.1)), q.2) :=
  CT_of (L0 := [(0, .inr (.inr 133)), (1, .inl x1), (2, .inl x2)]) (by decide) rfl (Nat.le_of_ble_eq_true rfl) (fun κ X => tf_X8_weightAt X x1 x2 h q  hq)
theorem tF_X8_firstAt_41 {κ : Kx} (X : OK κ cX8_firstAt 10 (some .int) "StruckWords$Tear" 3) (x1 : Int32) (x2 : Int32) (x3 : Int64) (x5 : Int32) (x6 : Int32) (k99 : Hp → Option (Int32 × Hp)) (k108 : Hp → Option (Int32 × Hp)) (self : Int32 → Hp → Option (Int32 × Hp)) (x7 : Int32) (h : Hp) (q : (Int32 × Hp)) (hk99 : ∀ (h : Hp) (q : (Int32 × Hp)), k99 h = some q → J κ 99 [(5, .inl x5)] [] h (some (.inl q.1), q.2)) (hk108 : ∀ (h : Hp) (q : (Int32 × Hp)), k108 h = some q → J κ 108 [(0, .inr (.inr 133)), (1, .inl x1), (2, .inl x2), (3, .inr (.inl x3)), (5, .inl x5)] [] h (some (.inl q.1), q.2)) (hself : ∀ (x7 : Int32) (h : Hp) (q : (Int32 × Hp)), self x7 h = some q → J κ 41 [(0, .inr (.inr 133)), (1, .inl x1), (2, .inl x2), (3, .inr (.inl x3)), (5, .inl x5), (6, .inl x6), (7, .inl x7)] [] h (some (.inl q.1), q.2)) (hq : F_X8_firstAt_41 x1 x2 x3 x5 x6 k99 k108 self x7 h = some q) : J κ 41 [(0, .inr (.inr 133)), (1, .inl x1), (2, .inl x2), (3, .inr (.inl x3)), (5, .inl x5), (6, .inl x6), (7, .inl x7)] [] h (some (.inl q.1), q.2) := by
  delta F_X8_firstAt_41 at hq
  refine J_iload (pc := 41) X (j := 6) rfl dX8_firstAt_41 ?_
  refine J_aload_n (pc := 43) X (j := 0) (i := 0) rfl rfl dX8_firstAt_43 ?_
  refine J_getR (pc := 44) X ly133 fl_8_38 dX8_firstAt_44 ?_
  refine J_ltR hq (fun r7 hq => ?_)
  obtain ⟨g8, hq⟩ := gd hq
  refine J_getI (pc := 47) X (isO_lay g8) fl_8_112 dX8_firstAt_47 ?_
  refine J_icmp_ge (pc := 50) (tgt := 108) X dX8_firstAt_50 rfl (fun c9 => ?_) (fun c9 => ?_)
  · have hq := ite_t hq c9
    refine J_sub [0, 1, 2, 3, 4] rfl ?_
    exact hk108 _ _ hq
  · have hq := ite_f hq c9
    refine J_aload_n (pc := 53) X (j := 0) (i := 0) rfl rfl dX8_firstAt_53 ?_
    refine J_getF (pc := 54) X (b := 139) ly133 fl_8_31 rfl dX8_firstAt_54 ?_
    refine J_iload_n (pc := 57) X (j := 1) (i := 1) rfl rfl dX8_firstAt_57 ?_
    refine J_iconst (pc := 58) X (v := 1) (by decide) dX8_firstAt_58 ?_
    refine J_iadd (pc := 59) X dX8_firstAt_59 ?_
    refine J_bipush (pc := 60) X (v := 6) (by decide) dX8_firstAt_60 ?_
    refine J_imul (pc := 62) X dX8_firstAt_62 ?_
    refine J_iload (pc := 63) X (j := 6) rfl dX8_firstAt_63 ?_
    refine J_iadd (pc := 65) X dX8_firstAt_65 ?_
    obtain ⟨g10, hq⟩ := gd hq
    refine J_laload (pc := 66) X ly139 g10 dX8_firstAt_66 ?_
    refine J_ltL hq (fun v11 hq => ?_)
    refine J_lstore (pc := 67) X (L' := [(8, .inr (.inl v11)), (0, .inr (.inr 133)), (1, .inl x1), (2, .inl x2), (3, .inr (.inl x3)), (5, .inl x5), (6, .inl x6), (7, .inl x7)]) (by decide) rfl dX8_firstAt_67 ?_
    refine J_iload (pc := 69) X (j := 6) rfl dX8_firstAt_69 ?_
    refine J_iload (pc := 71) X (j := 7) rfl dX8_firstAt_71 ?_
    refine J_ishr (pc := 73) X dX8_firstAt_73 ?_
    refine J_iconst (pc := 74) X (v := 1) (by decide) dX8_firstAt_74 ?_
    refine J_iand (pc := 75) X dX8_firstAt_75 ?_
    refine J_if_eq (pc := 76) (tgt := 102) X dX8_firstAt_76 rfl (fun c12 => ?_) (fun c12 => ?_)
    · have hq := ite_t hq c12
      refine J_iinc (pc := 102) X (j := 7) (v := 1) (L' := [(7, .inl (x7 + 1)), (8, .inr (.inl v11)), (0, .inr (.inr 133)), (1, .inl x1), (2, .inl x2), (3, .inr (.inl x3)), (5, .inl x5), (6, .inl x6)]) rfl (by decide) (by decide) rfl dX8_firstAt_102 ?_
      refine J_goto (pc := 105) X (tgt := 41) dX8_firstAt_105 rfl ?_
      refine J_sub [2, 3, 4, 5, 6, 7, 0] rfl ?_
      exact hself _ _ _ hq
    · have hq := ite_f hq c12
      refine J_lload_n (pc := 79) X (j := 4) (i := 3) rfl rfl dX8_firstAt_79 ?_
      refine J_aload_n (pc := 80) X (j := 1) (i := 0) rfl rfl dX8_firstAt_80 ?_
      refine J_iload_n (pc := 81) X (j := 2) (i := 1) rfl rfl dX8_firstAt_81 ?_
      refine J_iload (pc := 82) X (j := 5) rfl dX8_firstAt_82 ?_
      obtain ⟨v14, h13, hc, hq⟩ := bnd_e hq
      refine J_callV (pc := 84) (as := [.inl x1, .inl x5]) (st := [.inr (.inl x3)]) (st2 := [.inr (.inl v14), .inr (.inl x3)]) (r1 := (some (.inr (.inl v14)), h13)) (h2 := h13) (ky := 1) X dX8_firstAt_84 ca_X8_weightAt ci_X8_weightAt cs_X8_weightAt ml_8_141 (by decide) ly133 rfl rfl (m_X8_weightAt _ _ _ _ hc) rfl rfl (Nat.le_of_ble_eq_true rfl) rfl rfl ?_
      refine J_lmul (pc := 87) X dX8_firstAt_87 ?_
      refine J_lload (pc := 88) X (j := 0) rfl dX8_firstAt_88 ?_
      refine J_lmul (pc := 90) X dX8_firstAt_90 ?_
      refine J_aload_n (pc := 91) X (j := 1) (i := 0) rfl rfl dX8_firstAt_91 ?_
      refine J_getL (pc := 92) X ly133 fl_8_77 dX8_firstAt_92 ?_
      refine J_lcmp (pc := 95) X dX8_firstAt_95 ?_
      refine J_if_ne (pc := 96) (tgt := 102) X dX8_firstAt_96 rfl (fun c15 => ?_) (fun c15 => ?_)
      · have hq := ite_f hq c15
        refine J_iinc (pc := 102) X (j := 7) (v := 1) (L' := [(7, .inl (x7 + 1)), (8, .inr (.inl v11)), (0, .inr (.inr 133)), (1, .inl x1), (2, .inl x2), (3, .inr (.inl x3)), (5, .inl x5), (6, .inl x6)]) rfl (by decide) (by decide) rfl dX8_firstAt_102 ?_
        refine J_goto (pc := 105) X (tgt := 41) dX8_firstAt_105 rfl ?_
        refine J_sub [2, 3, 4, 5, 6, 7, 0] rfl ?_
        exact hself _ _ _ hq
      · have hq := ite_t hq c15
        refine J_sub [5] rfl ?_
        exact hk99 _ _ hq
theorem tL_X8_firstAt_41 {κ : Kx} (X : OK κ cX8_firstAt 10 (some .int) "StruckWords$Tear" 3) (x1 : Int32) (x2 : Int32) (x3 : Int64) (x5 : Int32) (x6 : Int32) (k99 : Hp → Option (Int32 × Hp)) (k108 : Hp → Option (Int32 × Hp)) (N : Nat) (x7 : Int32) (h : Hp) (q : (Int32 × Hp)) (hk99 : ∀ (h : Hp) (q : (Int32 × Hp)), k99 h = some q → J κ 99 [(5, .inl x5)] [] h (some (.inl q.1), q.2)) (hk108 : ∀ (h : Hp) (q : (Int32 × Hp)), k108 h = some q → J κ 108 [(0, .inr (.inr 133)), (1, .inl x1), (2, .inl x2), (3, .inr (.inl x3)), (5, .inl x5)] [] h (some (.inl q.1), q.2)) (hq : itr2 (F_X8_firstAt_41 x1 x2 x3 x5 x6 k99 k108) N x7 h = some q) : J κ 41 [(0, .inr (.inr 133)), (1, .inl x1), (2, .inl x2), (3, .inr (.inl x3)), (5, .inl x5), (6, .inl x6), (7, .inl x7)] [] h (some (.inl q.1), q.2) :=
  itr2_ind (fun self hs x7 h q hq => tF_X8_firstAt_41 X x1 x2 x3 x5 x6 k99 k108 self x7 h q hk99 hk108 hs hq) N x7 h q hq
theorem tF_X8_firstAt_3 {κ : Kx} (X : OK κ cX8_firstAt 10 (some .int) "StruckWords$Tear" 3) (x1 : Int32) (x2 : Int32) (x3 : Int64) (k99 : Int32 → Hp → Option (Int32 × Hp)) (k114 : Hp → Option (Int32 × Hp)) (self : Int32 → Hp → Option (Int32 × Hp)) (x5 : Int32) (h : Hp) (q : (Int32 × Hp)) (hk99 : ∀ (x5 : Int32) (h : Hp) (q : (Int32 × Hp)), k99 x5 h = some q → J κ 99 [(5, .inl x5)] [] h (some (.inl q.1), q.2)) (hk114 : ∀ (h : Hp) (q : (Int32 × Hp)), k114 h = some q → J κ 114 [] [] h (some (.inl q.1), q.2)) (hself : ∀ (x5 : Int32) (h : Hp) (q : (Int32 × Hp)), self x5 h = some q → J κ 3 [(0, .inr (.inr 133)), (1, .inl x1), (2, .inl x2), (3, .inr (.inl x3)), (5, .inl x5)] [] h (some (.inl q.1), q.2)) (hq : F_X8_firstAt_3 x1 x2 x3 k99 k114 self x5 h = some q) : J κ 3 [(0, .inr (.inr 133)), (1, .inl x1), (2, .inl x2), (3, .inr (.inl x3)), (5, .inl x5)] [] h (some (.inl q.1), q.2) := by
  delta F_X8_firstAt_3 at hq
  refine J_iload (pc := 3) X (j := 4) rfl dX8_firstAt_3 ?_
  refine J_aload_n (pc := 5) X (j := 0) (i := 0) rfl rfl dX8_firstAt_5 ?_
  refine J_getR (pc := 6) X ly133 fl_8_38 dX8_firstAt_6 ?_
  refine J_ltR hq (fun r1 hq => ?_)
  obtain ⟨g2, hq⟩ := gd hq
  refine J_getI (pc := 9) X (isO_lay g2) fl_8_93 dX8_firstAt_9 ?_
  refine J_icmp_ge (pc := 12) (tgt := 114) X dX8_firstAt_12 rfl (fun c3 => ?_) (fun c3 => ?_)
  · have hq := ite_t hq c3
    refine J_sub [] rfl ?_
    exact hk114 _ _ hq
  · have hq := ite_f hq c3
    refine J_aload_n (pc := 15) X (j := 0) (i := 0) rfl rfl dX8_firstAt_15 ?_
    refine J_iload_n (pc := 16) X (j := 1) (i := 1) rfl rfl dX8_firstAt_16 ?_
    refine J_iload (pc := 17) X (j := 4) rfl dX8_firstAt_17 ?_
    obtain ⟨v5, h4, hc, hq⟩ := bnd_e hq
    refine J_callV (pc := 19) (as := [.inl x1, .inl x5]) (st := []) (st2 := [.inl v5]) (r1 := (some (.inl v5), h4)) (h2 := h4) (ky := 1) X dX8_firstAt_19 ca_X8_mayStandAt ci_X8_mayStandAt cs_X8_mayStandAt ml_8_96 (by decide) ly133 rfl rfl (m_X8_mayStandAt _ _ _ _ hc) rfl rfl (Nat.le_of_ble_eq_true rfl) rfl rfl ?_
    refine J_if_eq (pc := 22) (tgt := 35) X dX8_firstAt_22 rfl (fun c6 => ?_) (fun c6 => ?_)
    · have hq := ite_t hq c6
      refine J_iconst (pc := 35) X (v := 0) (by decide) dX8_firstAt_35 ?_
      refine J_istore (pc := 36) X (L' := [(6, .inl 0), (0, .inr (.inr 133)), (1, .inl x1), (2, .inl x2), (3, .inr (.inl x3)), (5, .inl x5)]) (by decide) rfl dX8_firstAt_36 ?_
      refine J_iconst (pc := 38) X (v := 0) (by decide) dX8_firstAt_38 ?_
      refine J_istore (pc := 39) X (L' := [(7, .inl 0), (6, .inl 0), (0, .inr (.inr 133)), (1, .inl x1), (2, .inl x2), (3, .inr (.inl x3)), (5, .inl x5)]) (by decide) rfl dX8_firstAt_39 ?_
      refine J_sub [2, 3, 4, 5, 6, 1, 0] rfl ?_
      refine tL_X8_firstAt_41 X _ _ _ _ _ _ _ N0 _ _ _ ?_ ?_ hq
      · intro h16 q hq
        exact hk99 _ _ _ hq
      · intro h17 q hq
        refine J_iinc (pc := 108) X (j := 4) (v := 1) (L' := [(5, .inl (x5 + 1)), (0, .inr (.inr 133)), (1, .inl x1), (2, .inl x2), (3, .inr (.inl x3))]) rfl (by decide) (by decide) rfl dX8_firstAt_108 ?_
        refine J_goto (pc := 111) X (tgt := 3) dX8_firstAt_111 rfl ?_
        refine J_sub [1, 2, 3, 4, 0] rfl ?_
        exact hself _ _ _ hq
    · have hq := ite_f hq c6
      refine J_aload_n (pc := 25) X (j := 0) (i := 0) rfl rfl dX8_firstAt_25 ?_
      refine J_iload_n (pc := 26) X (j := 2) (i := 2) rfl rfl dX8_firstAt_26 ?_
      refine J_iload (pc := 27) X (j := 4) rfl dX8_firstAt_27 ?_
      obtain ⟨v19, h18, hc, hq⟩ := bnd_e hq
      refine J_callV (pc := 29) (as := [.inl x2, .inl x5]) (st := []) (st2 := [.inl v19]) (r1 := (some (.inl v19), h18)) (h2 := h18) (ky := 2) X dX8_firstAt_29 ca_X8_sortsBehind ci_X8_sortsBehind cs_X8_sortsBehind ml_8_158 (by decide) ly133 rfl rfl (m_X8_sortsBehind _ _ _ _ hc) rfl rfl (Nat.le_of_ble_eq_true rfl) rfl rfl ?_
      refine J_goto (pc := 32) X (tgt := 36) dX8_firstAt_32 rfl ?_
      refine J_istore (pc := 36) X (L' := [(6, .inl v19), (0, .inr (.inr 133)), (1, .inl x1), (2, .inl x2), (3, .inr (.inl x3)), (5, .inl x5)]) (by decide) rfl dX8_firstAt_36 ?_
      refine J_iconst (pc := 38) X (v := 0) (by decide) dX8_firstAt_38 ?_
      refine J_istore (pc := 39) X (L' := [(7, .inl 0), (6, .inl v19), (0, .inr (.inr 133)), (1, .inl x1), (2, .inl x2), (3, .inr (.inl x3)), (5, .inl x5)]) (by decide) rfl dX8_firstAt_39 ?_
      refine J_sub [2, 3, 4, 5, 6, 1, 0] rfl ?_
      refine tL_X8_firstAt_41 X _ _ _ _ _ _ _ N0 _ _ _ ?_ ?_ hq
      · intro h20 q hq
        exact hk99 _ _ _ hq
      · intro h21 q hq
        refine J_iinc (pc := 108) X (j := 4) (v := 1) (L' := [(5, .inl (x5 + 1)), (0, .inr (.inr 133)), (1, .inl x1), (2, .inl x2), (3, .inr (.inl x3))]) rfl (by decide) (by decide) rfl dX8_firstAt_108 ?_
        refine J_goto (pc := 111) X (tgt := 3) dX8_firstAt_111 rfl ?_
        refine J_sub [1, 2, 3, 4, 0] rfl ?_
        exact hself _ _ _ hq
theorem tL_X8_firstAt_3 {κ : Kx} (X : OK κ cX8_firstAt 10 (some .int) "StruckWords$Tear" 3) (x1 : Int32) (x2 : Int32) (x3 : Int64) (k99 : Int32 → Hp → Option (Int32 × Hp)) (k114 : Hp → Option (Int32 × Hp)) (N : Nat) (x5 : Int32) (h : Hp) (q : (Int32 × Hp)) (hk99 : ∀ (x5 : Int32) (h : Hp) (q : (Int32 × Hp)), k99 x5 h = some q → J κ 99 [(5, .inl x5)] [] h (some (.inl q.1), q.2)) (hk114 : ∀ (h : Hp) (q : (Int32 × Hp)), k114 h = some q → J κ 114 [] [] h (some (.inl q.1), q.2)) (hq : itr2 (F_X8_firstAt_3 x1 x2 x3 k99 k114) N x5 h = some q) : J κ 3 [(0, .inr (.inr 133)), (1, .inl x1), (2, .inl x2), (3, .inr (.inl x3)), (5, .inl x5)] [] h (some (.inl q.1), q.2) :=
  itr2_ind (fun self hs x5 h q hq => tF_X8_firstAt_3 X x1 x2 x3 k99 k114 self x5 h q hk99 hk114 hs hq) N x5 h q hq
theorem tf_X8_firstAt {κ : Kx} (X : OK κ cX8_firstAt 10 (some .int) "StruckWords$Tear" 3) (x1 : Int32) (x2 : Int32) (x3 : Int64) (h : Hp) (q : (Int32 × Hp)) (hq : f_X8_firstAt x1 x2 x3 h = some q) : J κ 0 [(0, .inr (.inr 133)), (1, .inl x1), (2, .inl x2), (3, .inr (.inl x3))] [] h (some (.inl q.1), q.2) := by
  delta f_X8_firstAt at hq
  refine J_iconst (pc := 0) X (v := 0) (by decide) dX8_firstAt_0 ?_
  refine J_istore (pc := 1) X (L' := [(5, .inl 0), (0, .inr (.inr 133)), (1, .inl x1), (2, .inl x2), (3, .inr (.inl x3))]) (by decide) rfl dX8_firstAt_1 ?_
  refine J_sub [1, 2, 3, 4, 0] rfl ?_
  refine tL_X8_firstAt_3 X _ _ _ _ _ N0 _ _ _ ?_ ?_ hq
  · intro v23 h22 q hq
    refine J_iload (pc := 99) X (j := 0) rfl dX8_firstAt_99 ?_
    obtain rfl := Option.some.inj hq
    exact J_iret (pc := 101) X dX8_firstAt_101
  · intro h24 q hq
    refine J_iconst (pc := 114) X (v := (-1)) (by decide) dX8_firstAt_114 ?_
    obtain rfl := Option.some.inj hq
    exact J_iret (pc := 115) X dX8_firstAt_115
theorem m_X8_firstAt (x1 : Int32) (x2 : Int32) (x3 : Int64) (h : Hp) (q : (Int32 × Hp)) (hq : f_X8_firstAt x1 x2 x3 h = some q) : ∀ l w, CT l w yX8_firstAt cX8_firstAt 10 (some .int) 3 [.inr (.inr 133), .inl x1, .inl x2, .inr (.inl x3)] h (some (.inl q.1), q.2) :=
  CT_of (L0 := [(0, .inr (.inr 133)), (1, .inl x1), (2, .inl x2), (3, .inr (.inl x3))]) (by decide) rfl (Nat.le_of_ble_eq_true rfl) (fun κ X => tf_X8_firstAt X x1 x2 x3 h q  hq)
theorem tF_X8_chooseRow_16 {κ : Kx} (X : OK κ cX8_chooseRow 6 (none) "StruckWords$Tear" 4) (k40 : Hp → Option Hp) (k75 : Hp → Option Hp) (self : Int64 → Int32 → Int32 → Hp → Option Hp) (x1 : Int64) (x3 : Int32) (x4 : Int32) (h : Hp) (q : Hp) (hk40 : ∀ (h : Hp) (q : Hp), k40 h = some q → J κ 40 [] [] h (none, q)) (hk75 : ∀ (h : Hp) (q : Hp), k75 h = some q → J κ 75 [] [] h (none, q)) (hself : ∀ (x1 : Int64) (x3 : Int32) (x4 : Int32) (h : Hp) (q : Hp), self x1 x3 x4 h = some q → J κ 16 [(0, .inr (.inr 133)), (1, .inr (.inl x1)), (3, .inl x3), (4, .inl x4)] [] h (none, q)) (hq : F_X8_chooseRow_16 k40 k75 self x1 x3 x4 h = some q) : J κ 16 [(0, .inr (.inr 133)), (1, .inr (.inl x1)), (3, .inl x3), (4, .inl x4)] [] h (none, q) := by
  delta F_X8_chooseRow_16 at hq
  refine J_iload (pc := 16) X (j := 3) rfl dX8_chooseRow_16 ?_
  refine J_aload_n (pc := 18) X (j := 0) (i := 0) rfl rfl dX8_chooseRow_18 ?_
  refine J_getI (pc := 19) X ly133 fl_8_48 dX8_chooseRow_19 ?_
  refine J_icmp_ge (pc := 22) (tgt := 75) X dX8_chooseRow_22 rfl (fun c2 => ?_) (fun c2 => ?_)
  · have hq := ite_t hq c2
    refine J_sub [] rfl ?_
    exact hk75 _ _ hq
  · have hq := ite_f hq c2
    refine J_aload_n (pc := 25) X (j := 0) (i := 0) rfl rfl dX8_chooseRow_25 ?_
    refine J_iload (pc := 26) X (j := 3) rfl dX8_chooseRow_26 ?_
    refine J_iload_n (pc := 28) X (j := 2) (i := 3) rfl rfl dX8_chooseRow_28 ?_
    refine J_lload_n (pc := 29) X (j := 1) (i := 1) rfl rfl dX8_chooseRow_29 ?_
    obtain ⟨v4, h3, hc, hq⟩ := bnd_e hq
    refine J_callV (pc := 30) (as := [.inl x4, .inl x3, .inr (.inl x1)]) (st := []) (st2 := [.inl v4]) (r1 := (some (.inl v4), h3)) (h2 := h3) (ky := 3) X dX8_chooseRow_30 ca_X8_firstAt ci_X8_firstAt cs_X8_firstAt ml_8_151 (by decide) ly133 rfl rfl (m_X8_firstAt _ _ _ _ _ hc) rfl rfl (Nat.le_of_ble_eq_true rfl) rfl rfl ?_
    refine J_istore (pc := 33) X (L' := [(5, .inl v4), (0, .inr (.inr 133)), (1, .inr (.inl x1)), (3, .inl x3), (4, .inl x4)]) (by decide) rfl dX8_chooseRow_33 ?_
    refine J_iload (pc := 35) X (j := 0) rfl dX8_chooseRow_35 ?_
    refine J_if_ge (pc := 37) (tgt := 41) X dX8_chooseRow_37 rfl (fun c5 => ?_) (fun c5 => ?_)
    · have hq := ite_t hq c5
      refine J_aload_n (pc := 41) X (j := 1) (i := 0) rfl rfl dX8_chooseRow_41 ?_
      refine J_getF (pc := 42) X (b := 134) ly133 fl_8_14 rfl dX8_chooseRow_42 ?_
      refine J_iload (pc := 45) X (j := 0) rfl dX8_chooseRow_45 ?_
      obtain ⟨h6, hc, hq⟩ := bnv_e hq
      refine J_callV (pc := 47) (as := [.inl v4]) (st := []) (st2 := []) (r1 := (none, h6)) (h2 := h6) (ky := 1) X dX8_chooseRow_47 ca_X7_put ci_X7_put cs_X7_put ml_8_155 (by decide) ly134 rfl rfl (m_X7_put _ _ _ _ ly134 hc) rfl rfl (Nat.le_of_ble_eq_true rfl) rfl rfl ?_
      refine J_lload_n (pc := 50) X (j := 2) (i := 1) rfl rfl dX8_chooseRow_50 ?_
      refine J_aload_n (pc := 51) X (j := 1) (i := 0) rfl rfl dX8_chooseRow_51 ?_
      refine J_iload (pc := 52) X (j := 4) rfl dX8_chooseRow_52 ?_
      refine J_iload (pc := 54) X (j := 0) rfl dX8_chooseRow_54 ?_
      obtain ⟨v8, h7, hc, hq⟩ := bnd_e hq
      refine J_callV (pc := 56) (as := [.inl x4, .inl v4]) (st := [.inr (.inl x1)]) (st2 := [.inr (.inl v8), .inr (.inl x1)]) (r1 := (some (.inr (.inl v8)), h7)) (h2 := h7) (ky := 1) X dX8_chooseRow_56 ca_X8_weightAt ci_X8_weightAt cs_X8_weightAt ml_8_141 (by decide) ly133 rfl rfl (m_X8_weightAt _ _ _ _ hc) rfl rfl (Nat.le_of_ble_eq_true rfl) rfl rfl ?_
      refine J_lmul (pc := 59) X dX8_chooseRow_59 ?_
      refine J_ltL hq (fun v9 hq => ?_)
      refine J_lstore_n (pc := 60) X (L' := [(1, .inr (.inl v9)), (5, .inl v4), (0, .inr (.inr 133)), (3, .inl x3), (4, .inl x4)]) (i := 1) rfl (by decide) rfl dX8_chooseRow_60 ?_
      refine J_aload_n (pc := 61) X (j := 2) (i := 0) rfl rfl dX8_chooseRow_61 ?_
      refine J_iload_n (pc := 62) X (j := 3) (i := 3) rfl rfl dX8_chooseRow_62 ?_
      refine J_iload (pc := 63) X (j := 1) rfl dX8_chooseRow_63 ?_
      obtain ⟨v11, h10, hc, hq⟩ := bnd_e hq
      refine J_callV (pc := 65) (as := [.inl x3, .inl v4]) (st := []) (st2 := [.inl v11]) (r1 := (some (.inl v11), h10)) (h2 := h10) (ky := 2) X dX8_chooseRow_65 ca_X8_sortsBehind ci_X8_sortsBehind cs_X8_sortsBehind ml_8_158 (by decide) ly133 rfl rfl (m_X8_sortsBehind _ _ _ _ hc) rfl rfl (Nat.le_of_ble_eq_true rfl) rfl rfl ?_
      refine J_istore_n (pc := 68) X (L' := [(3, .inl v11), (1, .inr (.inl v9)), (5, .inl v4), (0, .inr (.inr 133)), (4, .inl x4)]) (i := 3) rfl (by decide) rfl dX8_chooseRow_68 ?_
      refine J_iinc (pc := 69) X (j := 4) (v := 1) (L' := [(4, .inl (x4 + 1)), (3, .inl v11), (1, .inr (.inl v9)), (5, .inl v4), (0, .inr (.inr 133))]) rfl (by decide) (by decide) rfl dX8_chooseRow_69 ?_
      refine J_goto (pc := 72) X (tgt := 16) dX8_chooseRow_72 rfl ?_
      refine J_sub [4, 2, 1, 0] rfl ?_
      exact hself _ _ _ _ _ hq
    · have hq := ite_f hq c5
      refine J_sub [] rfl ?_
      exact hk40 _ _ hq
theorem tL_X8_chooseRow_16 {κ : Kx} (X : OK κ cX8_chooseRow 6 (none) "StruckWords$Tear" 4) (k40 : Hp → Option Hp) (k75 : Hp → Option Hp) (N : Nat) (x1 : Int64) (x3 : Int32) (x4 : Int32) (h : Hp) (q : Hp) (hk40 : ∀ (h : Hp) (q : Hp), k40 h = some q → J κ 40 [] [] h (none, q)) (hk75 : ∀ (h : Hp) (q : Hp), k75 h = some q → J κ 75 [] [] h (none, q)) (hq : itr4 (F_X8_chooseRow_16 k40 k75) N x1 x3 x4 h = some q) : J κ 16 [(0, .inr (.inr 133)), (1, .inr (.inl x1)), (3, .inl x3), (4, .inl x4)] [] h (none, q) :=
  itr4_ind (fun self hs x1 x3 x4 h q hq => tF_X8_chooseRow_16 X k40 k75 self x1 x3 x4 h q hk40 hk75 hs hq) N x1 x3 x4 h q hq
theorem tf_X8_chooseRow {κ : Kx} (X : OK κ cX8_chooseRow 6 (none) "StruckWords$Tear" 4) (h : Hp) (q : Hp) (hq : f_X8_chooseRow h = some q) : J κ 0 [(0, .inr (.inr 133))] [] h (none, q) := by
  delta f_X8_chooseRow at hq
  refine J_aload_n (pc := 0) X (j := 0) (i := 0) rfl rfl dX8_chooseRow_0 ?_
  refine J_getF (pc := 1) X (b := 134) ly133 fl_8_14 rfl dX8_chooseRow_1 ?_
  refine J_iconst (pc := 4) X (v := 0) (by decide) dX8_chooseRow_4 ?_
  refine J_putI (pc := 5) X ly134 fp_8_148 dX8_chooseRow_5 ?_
  refine J_ltH hq (fun h1 hq => ?_)
  refine J_lconst (pc := 8) X (v := 1) (by decide) dX8_chooseRow_8 ?_
  refine J_lstore_n (pc := 9) X (L' := [(1, .inr (.inl 1)), (0, .inr (.inr 133))]) (i := 1) rfl (by decide) rfl dX8_chooseRow_9 ?_
  refine J_bipush (pc := 10) X (v := 32) (by decide) dX8_chooseRow_10 ?_
  refine J_istore_n (pc := 12) X (L' := [(3, .inl 32), (1, .inr (.inl 1)), (0, .inr (.inr 133))]) (i := 3) rfl (by decide) rfl dX8_chooseRow_12 ?_
  refine J_iconst (pc := 13) X (v := 0) (by decide) dX8_chooseRow_13 ?_
  refine J_istore (pc := 14) X (L' := [(4, .inl 0), (3, .inl 32), (1, .inr (.inl 1)), (0, .inr (.inr 133))]) (by decide) rfl dX8_chooseRow_14 ?_
  refine J_sub [3, 2, 1, 0] rfl ?_
  refine tL_X8_chooseRow_16 X _ _ N0 _ _ _ _ _ ?_ ?_ hq
  · intro h12 q hq
    obtain rfl := Option.some.inj hq
    exact J_vret (pc := 40) X dX8_chooseRow_40
  · intro h13 q hq
    obtain rfl := Option.some.inj hq
    exact J_vret (pc := 75) X dX8_chooseRow_75
theorem m_X8_chooseRow (h : Hp) (q : Hp) (hq : f_X8_chooseRow  h = some q) : ∀ l w, CT l w yX8_chooseRow cX8_chooseRow 6 (none) 4 [.inr (.inr 133)] h (none, q) :=
  CT_of (L0 := [(0, .inr (.inr 133))]) (by decide) rfl (Nat.le_of_ble_eq_true rfl) (fun κ X => tf_X8_chooseRow X  h q  hq)
theorem tf_X10_made {κ : Kx} (X : OK κ cX10_made 4 (some .int) "StruckWords$Tongue" 1) (x0 : Nat) (x1 : Int32) (x2 : Int32) (x3 : Int32) (h : Hp) (q : (Int32 × Hp)) (lx0 : lay x0 = some (.inl 8)) (hq : f_X10_made x0 x1 x2 x3 h = some q) : J κ 0 [(0, .inr (.inr x0)), (1, .inl x1), (2, .inl x2), (3, .inl x3)] [] h (some (.inl q.1), q.2) := by
  delta f_X10_made at hq
  refine J_aload_n (pc := 0) X (j := 0) (i := 0) rfl rfl dX10_made_0 ?_
  refine J_getF (pc := 1) X (b := x0 + 9) lx0 fl_10_41 rfl dX10_made_1 ?_
  refine J_iload_n (pc := 4) X (j := 1) (i := 1) rfl rfl dX10_made_4 ?_
  refine J_iconst (pc := 5) X (v := 5) (by decide) dX10_made_5 ?_
  refine J_imul (pc := 6) X dX10_made_6 ?_
  refine J_iload_n (pc := 7) X (j := 2) (i := 2) rfl rfl dX10_made_7 ?_
  refine J_iadd (pc := 8) X dX10_made_8 ?_
  refine J_bipush (pc := 9) X (v := 8) (by decide) dX10_made_9 ?_
  refine J_imul (pc := 11) X dX10_made_11 ?_
  refine J_iload_n (pc := 12) X (j := 3) (i := 3) rfl rfl dX10_made_12 ?_
  refine J_iadd (pc := 13) X dX10_made_13 ?_
  obtain ⟨g1, hq⟩ := gd hq
  refine J_iaload (pc := 14) X (ly_8_9 lx0) g1 dX10_made_14 ?_
  obtain rfl := Option.some.inj hq
  exact J_iret (pc := 15) X dX10_made_15
theorem m_X10_made (x0 : Nat) (x1 : Int32) (x2 : Int32) (x3 : Int32) (h : Hp) (q : (Int32 × Hp)) (lx0 : lay x0 = some (.inl 8)) (hq : f_X10_made x0 x1 x2 x3 h = some q) : ∀ l w, CT l w yX10_made cX10_made 4 (some .int) 1 [.inr (.inr x0), .inl x1, .inl x2, .inl x3] h (some (.inl q.1), q.2) :=
  CT_of (L0 := [(0, .inr (.inr x0)), (1, .inl x1), (2, .inl x2), (3, .inl x3)]) (by decide) rfl (Nat.le_of_ble_eq_true rfl) (fun κ X => tf_X10_made X x0 x1 x2 x3 h q lx0 hq)
theorem tF_X8_countWith_15 {κ : Kx} (X : OK κ cX8_countWith 4 (none) "StruckWords$Tear" 2) (x1 : Int32) (x2 : Int32) (k73 : Hp → Option Hp) (self : Int32 → Hp → Option Hp) (x3 : Int32) (h : Hp) (q : Hp) (hk73 : ∀ (h : Hp) (q : Hp), k73 h = some q → J κ 73 [(0, .inr (.inr 133)), (1, .inl x1), (2, .inl x2)] [] h (none, q)) (hself : ∀ (x3 : Int32) (h : Hp) (q : Hp), self x3 h = some q → J κ 15 [(0, .inr (.inr 133)), (1, .inl x1), (2, .inl x2), (3, .inl x3)] [] h (none, q)) (hq : F_X8_countWith_15 x1 x2 k73 self x3 h = some q) : J κ 15 [(0, .inr (.inr 133)), (1, .inl x1), (2, .inl x2), (3, .inl x3)] [] h (none, q) := by
  delta F_X8_countWith_15 at hq
  refine J_iload_n (pc := 15) X (j := 3) (i := 3) rfl rfl dX8_countWith_15 ?_
  refine J_bipush (pc := 16) X (v := 8) (by decide) dX8_countWith_16 ?_
  refine J_icmp_ge (pc := 18) (tgt := 73) X dX8_countWith_18 rfl (fun c4 => ?_) (fun c4 => ?_)
  · have hq := ite_t hq c4
    refine J_sub [0, 1, 2] rfl ?_
    exact hk73 _ _ hq
  · have hq := ite_f hq c4
    refine J_aload_n (pc := 21) X (j := 0) (i := 0) rfl rfl dX8_countWith_21 ?_
    refine J_getR (pc := 22) X ly133 fl_8_38 dX8_countWith_22 ?_
    refine J_ltR hq (fun r5 hq => ?_)
    obtain ⟨g6, hq⟩ := gd hq
    refine J_iload_n (pc := 25) X (j := 1) (i := 1) rfl rfl dX8_countWith_25 ?_
    refine J_iload_n (pc := 26) X (j := 2) (i := 2) rfl rfl dX8_countWith_26 ?_
    obtain ⟨v8, h7, hc, hq⟩ := bnd_e hq
    refine J_callV (pc := 27) (as := [.inl x1, .inl x2]) (st := []) (st2 := [.inl v8]) (r1 := (some (.inl v8), h7)) (h2 := h7) (ky := 1) X dX8_countWith_27 ca_X10_readsAs ci_X10_readsAs cs_X10_readsAs ml_8_118 (by decide) (isO_lay g6) rfl rfl (m_X10_readsAs _ _ _ _ _ (isO_lay g6) hc) rfl rfl (Nat.le_of_ble_eq_true rfl) rfl rfl ?_
    refine J_if_eq (pc := 30) (tgt := 73) X dX8_countWith_30 rfl (fun c9 => ?_) (fun c9 => ?_)
    · have hq := ite_t hq c9
      refine J_sub [0, 1, 2] rfl ?_
      exact hk73 _ _ hq
    · have hq := ite_f hq c9
      refine J_aload_n (pc := 33) X (j := 0) (i := 0) rfl rfl dX8_countWith_33 ?_
      refine J_getF (pc := 34) X (b := 137) ly133 fl_8_24 rfl dX8_countWith_34 ?_
      refine J_iload_n (pc := 37) X (j := 2) (i := 2) rfl rfl dX8_countWith_37 ?_
      refine J_bipush (pc := 38) X (v := 8) (by decide) dX8_countWith_38 ?_
      refine J_imul (pc := 40) X dX8_countWith_40 ?_
      refine J_aload_n (pc := 41) X (j := 0) (i := 0) rfl rfl dX8_countWith_41 ?_
      refine J_getR (pc := 42) X ly133 fl_8_38 dX8_countWith_42 ?_
      refine J_ltR hq (fun r10 hq => ?_)
      obtain ⟨g11, hq⟩ := gd hq
      refine J_iload_n (pc := 45) X (j := 1) (i := 1) rfl rfl dX8_countWith_45 ?_
      refine J_iload_n (pc := 46) X (j := 2) (i := 2) rfl rfl dX8_countWith_46 ?_
      refine J_iload_n (pc := 47) X (j := 3) (i := 3) rfl rfl dX8_countWith_47 ?_
      obtain ⟨v13, h12, hc, hq⟩ := bnd_e hq
      refine J_callV (pc := 48) (as := [.inl x1, .inl x2, .inl x3]) (st := [.inl (x2 * 8), .inr (.inr 137)]) (st2 := [.inl v13, .inl (x2 * 8), .inr (.inr 137)]) (r1 := (some (.inl v13), h12)) (h2 := h12) (ky := 1) X dX8_countWith_48 ca_X10_made ci_X10_made cs_X10_made ml_8_121 (by decide) (isO_lay g11) rfl rfl (m_X10_made _ _ _ _ _ _ (isO_lay g11) hc) rfl rfl (Nat.le_of_ble_eq_true rfl) rfl rfl ?_
      refine J_iadd (pc := 51) X dX8_countWith_51 ?_
      refine J_dup2 (pc := 52) X rfl rfl dX8_countWith_52 ?_
      obtain ⟨g14, hq⟩ := gd hq
      refine J_laload (pc := 53) X ly137 g14 dX8_countWith_53 ?_
      refine J_aload_n (pc := 54) X (j := 0) (i := 0) rfl rfl dX8_countWith_54 ?_
      refine J_getF (pc := 55) X (b := 138) ly133 fl_8_28 rfl dX8_countWith_55 ?_
      refine J_iload_n (pc := 58) X (j := 2) (i := 2) rfl rfl dX8_countWith_58 ?_
      refine J_bipush (pc := 59) X (v := 8) (by decide) dX8_countWith_59 ?_
      refine J_imul (pc := 61) X dX8_countWith_61 ?_
      refine J_iload_n (pc := 62) X (j := 3) (i := 3) rfl rfl dX8_countWith_62 ?_
      refine J_iadd (pc := 63) X dX8_countWith_63 ?_
      obtain ⟨g15, hq⟩ := gd hq
      refine J_laload (pc := 64) X ly138 g15 dX8_countWith_64 ?_
      refine J_ladd (pc := 65) X dX8_countWith_65 ?_
      obtain ⟨g16, hq⟩ := gd hq
      refine J_lastore (pc := 66) X ly137 g16 dX8_countWith_66 ?_
      refine J_ltH hq (fun h17 hq => ?_)
      refine J_iinc (pc := 67) X (j := 3) (v := 1) (L' := [(3, .inl (x3 + 1)), (0, .inr (.inr 133)), (1, .inl x1), (2, .inl x2)]) rfl (by decide) (by decide) rfl dX8_countWith_67 ?_
      refine J_goto (pc := 70) X (tgt := 15) dX8_countWith_70 rfl ?_
      refine J_sub [1, 2, 3, 0] rfl ?_
      exact hself _ _ _ hq
theorem tL_X8_countWith_15 {κ : Kx} (X : OK κ cX8_countWith 4 (none) "StruckWords$Tear" 2) (x1 : Int32) (x2 : Int32) (k73 : Hp → Option Hp) (N : Nat) (x3 : Int32) (h : Hp) (q : Hp) (hk73 : ∀ (h : Hp) (q : Hp), k73 h = some q → J κ 73 [(0, .inr (.inr 133)), (1, .inl x1), (2, .inl x2)] [] h (none, q)) (hq : itr2 (F_X8_countWith_15 x1 x2 k73) N x3 h = some q) : J κ 15 [(0, .inr (.inr 133)), (1, .inl x1), (2, .inl x2), (3, .inl x3)] [] h (none, q) :=
  itr2_ind (fun self hs x3 h q hq => tF_X8_countWith_15 X x1 x2 k73 self x3 h q hk73 hs hq) N x3 h q hq
theorem tF_X8_countWith_2 {κ : Kx} (X : OK κ cX8_countWith 4 (none) "StruckWords$Tear" 2) (x1 : Int32) (k79 : Hp → Option Hp) (self : Int32 → Hp → Option Hp) (x2 : Int32) (h : Hp) (q : Hp) (hk79 : ∀ (h : Hp) (q : Hp), k79 h = some q → J κ 79 [] [] h (none, q)) (hself : ∀ (x2 : Int32) (h : Hp) (q : Hp), self x2 h = some q → J κ 2 [(0, .inr (.inr 133)), (1, .inl x1), (2, .inl x2)] [] h (none, q)) (hq : F_X8_countWith_2 x1 k79 self x2 h = some q) : J κ 2 [(0, .inr (.inr 133)), (1, .inl x1), (2, .inl x2)] [] h (none, q) := by
  delta F_X8_countWith_2 at hq
  refine J_iload_n (pc := 2) X (j := 2) (i := 2) rfl rfl dX8_countWith_2 ?_
  refine J_aload_n (pc := 3) X (j := 0) (i := 0) rfl rfl dX8_countWith_3 ?_
  refine J_getR (pc := 4) X ly133 fl_8_38 dX8_countWith_4 ?_
  refine J_ltR hq (fun r1 hq => ?_)
  obtain ⟨g2, hq⟩ := gd hq
  refine J_getI (pc := 7) X (isO_lay g2) fl_8_112 dX8_countWith_7 ?_
  refine J_icmp_ge (pc := 10) (tgt := 79) X dX8_countWith_10 rfl (fun c3 => ?_) (fun c3 => ?_)
  · have hq := ite_t hq c3
    refine J_sub [] rfl ?_
    exact hk79 _ _ hq
  · have hq := ite_f hq c3
    refine J_iconst (pc := 13) X (v := 0) (by decide) dX8_countWith_13 ?_
    refine J_istore_n (pc := 14) X (L' := [(3, .inl 0), (0, .inr (.inr 133)), (1, .inl x1), (2, .inl x2)]) (i := 3) rfl (by decide) rfl dX8_countWith_14 ?_
    refine J_sub [1, 2, 3, 0] rfl ?_
    refine tL_X8_countWith_15 X _ _ _ N0 _ _ _ ?_ hq
    · intro h18 q hq
      refine J_iinc (pc := 73) X (j := 2) (v := 1) (L' := [(2, .inl (x2 + 1)), (0, .inr (.inr 133)), (1, .inl x1)]) rfl (by decide) (by decide) rfl dX8_countWith_73 ?_
      refine J_goto (pc := 76) X (tgt := 2) dX8_countWith_76 rfl ?_
      refine J_sub [1, 2, 0] rfl ?_
      exact hself _ _ _ hq
theorem tL_X8_countWith_2 {κ : Kx} (X : OK κ cX8_countWith 4 (none) "StruckWords$Tear" 2) (x1 : Int32) (k79 : Hp → Option Hp) (N : Nat) (x2 : Int32) (h : Hp) (q : Hp) (hk79 : ∀ (h : Hp) (q : Hp), k79 h = some q → J κ 79 [] [] h (none, q)) (hq : itr2 (F_X8_countWith_2 x1 k79) N x2 h = some q) : J κ 2 [(0, .inr (.inr 133)), (1, .inl x1), (2, .inl x2)] [] h (none, q) :=
  itr2_ind (fun self hs x2 h q hq => tF_X8_countWith_2 X x1 k79 self x2 h q hk79 hs hq) N x2 h q hq
theorem tf_X8_countWith {κ : Kx} (X : OK κ cX8_countWith 4 (none) "StruckWords$Tear" 2) (x1 : Int32) (h : Hp) (q : Hp) (hq : f_X8_countWith x1 h = some q) : J κ 0 [(0, .inr (.inr 133)), (1, .inl x1)] [] h (none, q) := by
  delta f_X8_countWith at hq
  refine J_iconst (pc := 0) X (v := 0) (by decide) dX8_countWith_0 ?_
  refine J_istore_n (pc := 1) X (L' := [(2, .inl 0), (0, .inr (.inr 133)), (1, .inl x1)]) (i := 2) rfl (by decide) rfl dX8_countWith_1 ?_
  refine J_sub [1, 2, 0] rfl ?_
  refine tL_X8_countWith_2 X _ _ N0 _ _ _ ?_ hq
  · intro h19 q hq
    obtain rfl := Option.some.inj hq
    exact J_vret (pc := 79) X dX8_countWith_79
theorem m_X8_countWith (x1 : Int32) (h : Hp) (q : Hp) (hq : f_X8_countWith x1 h = some q) : ∀ l w, CT l w yX8_countWith cX8_countWith 4 (none) 2 [.inr (.inr 133), .inl x1] h (none, q) :=
  CT_of (L0 := [(0, .inr (.inr 133)), (1, .inl x1)]) (by decide) rfl (Nat.le_of_ble_eq_true rfl) (fun κ X => tf_X8_countWith X x1 h q  hq)
