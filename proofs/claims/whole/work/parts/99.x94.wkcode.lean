theorem tB_X12_word_25 {κ : Kx} (X : OK κ cX12_word 4 (some .int) "StruckWords" 2) (h : Hp) (q : (Int32 × Hp)) (hq : B_X12_word_25 h = some q) : J κ 25 [] [] h (some (.inl q.1), q.2) := by
  delta B_X12_word_25 at hq
  cases hq
theorem tf_X12_word {κ : Kx} (X : OK κ cX12_word 4 (some .int) "StruckWords" 2) (x1 : Int32) (x2 : Int32) (h : Hp) (q : (Int32 × Hp)) (hq : f_X12_word x1 x2 h = some q) : J κ 0 [(0, .inr (.inr 1)), (1, .inl x1), (2, .inl x2)] [] h (some (.inl q.1), q.2) := by
  delta f_X12_word at hq
  refine J_aload_n (pc := 0) X (j := 0) (i := 0) rfl rfl dX12_word_0 ?_
  refine J_getF (pc := 1) X (b := 6) ly1 fl_12_28 rfl dX12_word_1 ?_
  refine J_getF (pc := 4) X (b := 7) ly6 fl_12_95 rfl dX12_word_4 ?_
  refine J_astore_n (pc := 7) X (L' := [(3, .inr (.inr 7)), (0, .inr (.inr 1)), (1, .inl x1), (2, .inl x2)]) (i := 3) rfl (by decide) rfl dX12_word_7 ?_
  refine J_aload_n (pc := 8) X (j := 0) (i := 3) rfl rfl dX12_word_8 ?_
  refine J_iload_n (pc := 9) X (j := 2) (i := 1) rfl rfl dX12_word_9 ?_
  obtain ⟨v2, h1, hc, hq⟩ := bnd_e hq
  refine J_callV (pc := 10) (as := [.inl x1]) (st := []) (st2 := [.inl v2]) (r1 := (some (.inl v2), h1)) (h2 := h1) (ky := 1) X dX12_word_10 ca_X10_hasSaying ci_X10_hasSaying cs_X10_hasSaying ml_12_98 (by decide) ly7 rfl rfl (m_X10_hasSaying _ _ _ _ ly7 hc) rfl rfl (Nat.le_of_ble_eq_true rfl) rfl rfl ?_
  refine J_if_eq (pc := 13) (tgt := 25) X dX12_word_13 rfl (fun c3 => ?_) (fun c3 => ?_)
  · have hq := ite_t hq c3
    refine J_sub [] rfl ?_
    exact tB_X12_word_25 X _ _ hq
  · have hq := ite_f hq c3
    refine J_iload_n (pc := 16) X (j := 3) (i := 2) rfl rfl dX12_word_16 ?_
    refine J_if_lt (pc := 17) (tgt := 25) X dX12_word_17 rfl (fun c4 => ?_) (fun c4 => ?_)
    · have hq := ite_t hq c4
      refine J_sub [] rfl ?_
      exact tB_X12_word_25 X _ _ hq
    · have hq := ite_f hq c4
      refine J_iload_n (pc := 20) X (j := 3) (i := 2) rfl rfl dX12_word_20 ?_
      refine J_iconst (pc := 21) X (v := 4) (by decide) dX12_word_21 ?_
      refine J_icmp_le (pc := 22) (tgt := 35) X dX12_word_22 rfl (fun c5 => ?_) (fun c5 => ?_)
      · have hq := ite_t hq c5
        refine J_iload_n (pc := 35) X (j := 3) (i := 2) rfl rfl dX12_word_35 ?_
        by_cases c6 : x2 = 0
        · have hq := ite_t hq c6
          refine J_tsIn (pc := 36) (tgt := 68) X dX12_word_36 (0) (by rw [c6]; rfl) (by decide) (by decide) rfl rfl ?_
          refine J_aload_n (pc := 68) X (j := 0) (i := 3) rfl rfl dX12_word_68 ?_
          refine J_getF (pc := 69) X (b := 12) ly7 fl_12_109 rfl dX12_word_69 ?_
          refine J_iload_n (pc := 72) X (j := 2) (i := 1) rfl rfl dX12_word_72 ?_
          obtain ⟨g7, hq⟩ := gd hq
          refine J_iaload (pc := 73) X ly12 g7 dX12_word_73 ?_
          obtain rfl := Option.some.inj hq
          exact J_iret (pc := 74) X dX12_word_74
        · have hq := ite_f hq c6
          by_cases c8 : x2 = 1
          · have hq := ite_t hq c8
            refine J_tsIn (pc := 36) (tgt := 75) X dX12_word_36 (1) (by rw [c8]; rfl) (by decide) (by decide) rfl rfl ?_
            refine J_aload_n (pc := 75) X (j := 0) (i := 3) rfl rfl dX12_word_75 ?_
            refine J_getF (pc := 76) X (b := 13) ly7 fl_12_113 rfl dX12_word_76 ?_
            refine J_iload_n (pc := 79) X (j := 2) (i := 1) rfl rfl dX12_word_79 ?_
            obtain ⟨g9, hq⟩ := gd hq
            refine J_iaload (pc := 80) X ly13 g9 dX12_word_80 ?_
            obtain rfl := Option.some.inj hq
            exact J_iret (pc := 81) X dX12_word_81
          · have hq := ite_f hq c8
            by_cases c10 : x2 = 2
            · have hq := ite_t hq c10
              refine J_tsIn (pc := 36) (tgt := 82) X dX12_word_36 (2) (by rw [c10]; rfl) (by decide) (by decide) rfl rfl ?_
              refine J_aload_n (pc := 82) X (j := 0) (i := 3) rfl rfl dX12_word_82 ?_
              refine J_getF (pc := 83) X (b := 14) ly7 fl_12_116 rfl dX12_word_83 ?_
              refine J_iload_n (pc := 86) X (j := 2) (i := 1) rfl rfl dX12_word_86 ?_
              obtain ⟨g11, hq⟩ := gd hq
              refine J_iaload (pc := 87) X ly14 g11 dX12_word_87 ?_
              obtain rfl := Option.some.inj hq
              exact J_iret (pc := 88) X dX12_word_88
            · have hq := ite_f hq c10
              by_cases c12 : x2 = 3
              · have hq := ite_t hq c12
                refine J_tsIn (pc := 36) (tgt := 89) X dX12_word_36 (3) (by rw [c12]; rfl) (by decide) (by decide) rfl rfl ?_
                refine J_aload_n (pc := 89) X (j := 0) (i := 3) rfl rfl dX12_word_89 ?_
                refine J_getI (pc := 90) X ly7 fl_12_119 dX12_word_90 ?_
                refine J_iload_n (pc := 93) X (j := 2) (i := 1) rfl rfl dX12_word_93 ?_
                refine J_ishr (pc := 94) X dX12_word_94 ?_
                refine J_iconst (pc := 95) X (v := 1) (by decide) dX12_word_95 ?_
                refine J_iand (pc := 96) X dX12_word_96 ?_
                obtain rfl := Option.some.inj hq
                exact J_iret (pc := 97) X dX12_word_97
              · have hq := ite_f hq c12
                refine J_tsOut (pc := 36) (tgt := 98) X dX12_word_36 (by
                    have e0 := ne_toInt c6; rw [show (0 : Int32).toInt = 0 from rfl] at e0
                    have e1 := ne_toInt c8; rw [show (1 : Int32).toInt = 1 from rfl] at e1
                    have e2 := ne_toInt c10; rw [show (2 : Int32).toInt = 2 from rfl] at e2
                    have e3 := ne_toInt c12; rw [show (3 : Int32).toInt = 3 from rfl] at e3
                    omega) rfl ?_
                refine J_aload_n (pc := 98) X (j := 0) (i := 3) rfl rfl dX12_word_98 ?_
                refine J_getF (pc := 99) X (b := 15) ly7 fl_12_122 rfl dX12_word_99 ?_
                refine J_iload_n (pc := 102) X (j := 2) (i := 1) rfl rfl dX12_word_102 ?_
                obtain ⟨g13, hq⟩ := gd hq
                refine J_iaload (pc := 103) X ly15 g13 dX12_word_103 ?_
                obtain ⟨v15, h14, hc, hq⟩ := bnd_e hq
                refine J_callS (pc := 104) (as := [.inl (h1.1 15 (x1.toNatClampNeg))]) (st := []) (st2 := [.inl v15]) (r1 := (some (.inl v15), h14)) (h2 := h14) (ky := 1) X dX12_word_104 ca_J6_bitCount_0f7a4 cz_J6_bitCount_0f7a4 ml_12_125 (by decide) (m_J6_bitCount_0f7a4 _ _ _ hc) rfl rfl (Nat.le_of_ble_eq_true rfl) rfl rfl ?_
                obtain rfl := Option.some.inj hq
                exact J_iret (pc := 107) X dX12_word_107
      · have hq := ite_f hq c5
        refine J_sub [] rfl ?_
        exact tB_X12_word_25 X _ _ hq
theorem m_X12_word (x1 : Int32) (x2 : Int32) (h : Hp) (q : (Int32 × Hp)) (hq : f_X12_word x1 x2 h = some q) : ∀ l w, CT l w yX12_word cX12_word 4 (some .int) 2 [.inr (.inr 1), .inl x1, .inl x2] h (some (.inl q.1), q.2) :=
  CT_of (L0 := [(0, .inr (.inr 1)), (1, .inl x1), (2, .inl x2)]) (by decide) rfl (Nat.le_of_ble_eq_true rfl) (fun κ X => tf_X12_word X x1 x2 h q  hq)
theorem tB_X12_known_16 {κ : Kx} (X : OK κ cX12_known 6 (some .int) "StruckWords" 4) (h : Hp) (q : (Int32 × Hp)) (hq : B_X12_known_16 h = some q) : J κ 16 [] [] h (some (.inl q.1), q.2) := by
  delta B_X12_known_16 at hq
  cases hq
theorem tF_X12_known_34 {κ : Kx} (X : OK κ cX12_known 6 (some .int) "StruckWords" 4) (x1 : Int32) (x2 : Int32) (k121 : Int32 → Int32 → Hp → Option (Int32 × Hp)) (self : Int32 → Int32 → Int32 → Hp → Option (Int32 × Hp)) (x3 : Int32) (x4 : Int32) (x5 : Int32) (h : Hp) (q : (Int32 × Hp)) (hk121 : ∀ (x3 : Int32) (x4 : Int32) (h : Hp) (q : (Int32 × Hp)), k121 x3 x4 h = some q → J κ 121 [(2, .inl x2), (3, .inl x3), (4, .inl x4)] [] h (some (.inl q.1), q.2)) (hself : ∀ (x3 : Int32) (x4 : Int32) (x5 : Int32) (h : Hp) (q : (Int32 × Hp)), self x3 x4 x5 h = some q → J κ 34 [(0, .inr (.inr 1)), (1, .inl x1), (2, .inl x2), (3, .inl x3), (4, .inl x4), (5, .inl x5)] [] h (some (.inl q.1), q.2)) (hq : F_X12_known_34 x1 x2 k121 self x3 x4 x5 h = some q) : J κ 34 [(0, .inr (.inr 1)), (1, .inl x1), (2, .inl x2), (3, .inl x3), (4, .inl x4), (5, .inl x5)] [] h (some (.inl q.1), q.2) := by
  delta F_X12_known_34 at hq
  refine J_iload (pc := 34) X (j := 5) rfl dX12_known_34 ?_
  refine J_aload_n (pc := 36) X (j := 0) (i := 0) rfl rfl dX12_known_36 ?_
  refine J_getF (pc := 37) X (b := 6) ly1 fl_12_28 rfl dX12_known_37 ?_
  refine J_getF (pc := 40) X (b := 7) ly6 fl_12_95 rfl dX12_known_40 ?_
  refine J_getF (pc := 43) X (b := 9) ly7 fl_12_210 rfl dX12_known_43 ?_
  refine J_getI (pc := 46) X ly9 fl_12_214 dX12_known_46 ?_
  refine J_icmp_gt (pc := 49) (tgt := 121) X dX12_known_49 rfl (fun c6 => ?_) (fun c6 => ?_)
  · have hq := ite_t hq c6
    refine J_sub [2, 3, 4] rfl ?_
    exact hk121 _ _ _ _ hq
  · have hq := ite_f hq c6
    refine J_iload (pc := 52) X (j := 4) rfl dX12_known_52 ?_
    refine J_aload_n (pc := 54) X (j := 0) (i := 0) rfl rfl dX12_known_54 ?_
    refine J_getF (pc := 55) X (b := 6) ly1 fl_12_28 rfl dX12_known_55 ?_
    refine J_getF (pc := 58) X (b := 7) ly6 fl_12_95 rfl dX12_known_58 ?_
    refine J_getF (pc := 61) X (b := 10) ly7 fl_12_235 rfl dX12_known_61 ?_
    refine J_iload (pc := 64) X (j := 5) rfl dX12_known_64 ?_
    obtain ⟨g7, hq⟩ := gd hq
    refine J_iaload (pc := 66) X ly10 g7 dX12_known_66 ?_
    refine J_iadd (pc := 67) X dX12_known_67 ?_
    refine J_ltI hq (fun v8 hq => ?_)
    refine J_istore (pc := 68) X (L' := [(4, .inl v8), (0, .inr (.inr 1)), (1, .inl x1), (2, .inl x2), (3, .inl x3), (5, .inl x5)]) (by decide) rfl dX12_known_68 ?_
    refine J_aload_n (pc := 70) X (j := 1) (i := 0) rfl rfl dX12_known_70 ?_
    refine J_getF (pc := 71) X (b := 113) ly1 fl_12_43 rfl dX12_known_71 ?_
    refine J_aload_n (pc := 74) X (j := 1) (i := 0) rfl rfl dX12_known_74 ?_
    refine J_getF (pc := 75) X (b := 6) ly1 fl_12_28 rfl dX12_known_75 ?_
    refine J_getF (pc := 78) X (b := 7) ly6 fl_12_95 rfl dX12_known_78 ?_
    refine J_aload_n (pc := 81) X (j := 1) (i := 0) rfl rfl dX12_known_81 ?_
    refine J_getF (pc := 82) X (b := 6) ly1 fl_12_28 rfl dX12_known_82 ?_
    refine J_getF (pc := 85) X (b := 18) ly6 fl_12_149 rfl dX12_known_85 ?_
    refine J_iload (pc := 88) X (j := 5) rfl dX12_known_88 ?_
    obtain ⟨v10, h9, hc, hq⟩ := bnd_e hq
    refine J_callV (pc := 90) (as := [.inr (.inr 7), .inr (.inr 18), .inl x5]) (st := []) (st2 := [.inl v10]) (r1 := (some (.inl v10), h9)) (h2 := h9) (ky := 3) X dX12_known_90 ca_X3_meansBy ci_X3_meansBy cs_X3_meansBy ml_12_186 (by decide) ly113 rfl rfl (m_X3_meansBy _ _ _ _ _ ly7 ly18 hc) rfl rfl (Nat.le_of_ble_eq_true rfl) rfl rfl ?_
    refine J_iconst (pc := 93) X (v := 1) (by decide) dX12_known_93 ?_
    refine J_iload_n (pc := 94) X (j := 2) (i := 1) rfl rfl dX12_known_94 ?_
    refine J_ishl (pc := 95) X dX12_known_95 ?_
    refine J_icmp_ne (pc := 96) (tgt := 115) X dX12_known_96 rfl (fun c11 => ?_) (fun c11 => ?_)
    · have hq := ite_f hq c11
      refine J_iinc (pc := 115) X (j := 5) (v := 1) (L' := [(5, .inl (x5 + 1)), (4, .inl v8), (0, .inr (.inr 1)), (1, .inl x1), (2, .inl x2), (3, .inl x3)]) rfl (by decide) (by decide) rfl dX12_known_115 ?_
      refine J_goto (pc := 118) X (tgt := 34) dX12_known_118 rfl ?_
      refine J_sub [2, 3, 4, 5, 1, 0] rfl ?_
      exact hself _ _ _ _ _ hq
    · have hq := ite_t hq c11
      refine J_iload_n (pc := 99) X (j := 4) (i := 3) rfl rfl dX12_known_99 ?_
      refine J_aload_n (pc := 100) X (j := 1) (i := 0) rfl rfl dX12_known_100 ?_
      refine J_getF (pc := 101) X (b := 6) ly1 fl_12_28 rfl dX12_known_101 ?_
      refine J_getF (pc := 104) X (b := 7) ly6 fl_12_95 rfl dX12_known_104 ?_
      refine J_getF (pc := 107) X (b := 10) ly7 fl_12_235 rfl dX12_known_107 ?_
      refine J_iload (pc := 110) X (j := 5) rfl dX12_known_110 ?_
      obtain ⟨g12, hq⟩ := gd hq
      refine J_iaload (pc := 112) X ly10 g12 dX12_known_112 ?_
      refine J_iadd (pc := 113) X dX12_known_113 ?_
      refine J_ltI hq (fun v13 hq => ?_)
      refine J_istore_n (pc := 114) X (L' := [(3, .inl v13), (4, .inl v8), (0, .inr (.inr 1)), (1, .inl x1), (2, .inl x2), (5, .inl x5)]) (i := 3) rfl (by decide) rfl dX12_known_114 ?_
      refine J_iinc (pc := 115) X (j := 5) (v := 1) (L' := [(5, .inl (x5 + 1)), (3, .inl v13), (4, .inl v8), (0, .inr (.inr 1)), (1, .inl x1), (2, .inl x2)]) rfl (by decide) (by decide) rfl dX12_known_115 ?_
      refine J_goto (pc := 118) X (tgt := 34) dX12_known_118 rfl ?_
      refine J_sub [3, 4, 5, 1, 2, 0] rfl ?_
      exact hself _ _ _ _ _ hq
theorem tL_X12_known_34 {κ : Kx} (X : OK κ cX12_known 6 (some .int) "StruckWords" 4) (x1 : Int32) (x2 : Int32) (k121 : Int32 → Int32 → Hp → Option (Int32 × Hp)) (N : Nat) (x3 : Int32) (x4 : Int32) (x5 : Int32) (h : Hp) (q : (Int32 × Hp)) (hk121 : ∀ (x3 : Int32) (x4 : Int32) (h : Hp) (q : (Int32 × Hp)), k121 x3 x4 h = some q → J κ 121 [(2, .inl x2), (3, .inl x3), (4, .inl x4)] [] h (some (.inl q.1), q.2)) (hq : itr4 (F_X12_known_34 x1 x2 k121) N x3 x4 x5 h = some q) : J κ 34 [(0, .inr (.inr 1)), (1, .inl x1), (2, .inl x2), (3, .inl x3), (4, .inl x4), (5, .inl x5)] [] h (some (.inl q.1), q.2) :=
  itr4_ind (fun self hs x3 x4 x5 h q hq => tF_X12_known_34 X x1 x2 k121 self x3 x4 x5 h q hk121 hs hq) N x3 x4 x5 h q hq
theorem tB_X12_known_138 {κ : Kx} (X : OK κ cX12_known 6 (some .int) "StruckWords" 4) (x3 : Int32) (x4 : Int32) (t0 : Int32) (h : Hp) (q : (Int32 × Hp)) (hq : B_X12_known_138 x3 x4 t0 h = some q) : J κ 138 [(3, .inl x3), (4, .inl x4)] [.inl t0] h (some (.inl q.1), q.2) := by
  delta B_X12_known_138 at hq
  refine J_iload_n (pc := 138) X (j := 0) (i := 3) rfl rfl dX12_known_138 ?_
  refine J_iload (pc := 139) X (j := 1) rfl dX12_known_139 ?_
  obtain ⟨v20, h19, hc, hq⟩ := bnd_e hq
  refine J_callS (pc := 141) (as := [.inl t0, .inl x3, .inl x4]) (st := []) (st2 := [.inl v20]) (r1 := (some (.inl v20), h19)) (h2 := h19) (ky := 1) X dX12_known_141 ca_X12_inLeastNumbers cz_X12_inLeastNumbers ml_12_238 (by decide) (m_X12_inLeastNumbers _ _ _ _ _ hc) rfl rfl (Nat.le_of_ble_eq_true rfl) rfl rfl ?_
  obtain rfl := Option.some.inj hq
  exact J_iret (pc := 144) X dX12_known_144
theorem tf_X12_known {κ : Kx} (X : OK κ cX12_known 6 (some .int) "StruckWords" 4) (x1 : Int32) (x2 : Int32) (h : Hp) (q : (Int32 × Hp)) (hq : f_X12_known x1 x2 h = some q) : J κ 0 [(0, .inr (.inr 1)), (1, .inl x1), (2, .inl x2)] [] h (some (.inl q.1), q.2) := by
  delta f_X12_known at hq
  refine J_iload_n (pc := 0) X (j := 1) (i := 1) rfl rfl dX12_known_0 ?_
  obtain ⟨v2, h1, hc, hq⟩ := bnd_e hq
  refine J_callS (pc := 1) (as := [.inl x1]) (st := []) (st2 := [.inl v2]) (r1 := (some (.inl v2), h1)) (h2 := h1) (ky := 1) X dX12_known_1 ca_X12_isMeaning cz_X12_isMeaning ml_12_131 (by decide) (m_X12_isMeaning _ _ _ hc) rfl rfl (Nat.le_of_ble_eq_true rfl) rfl rfl ?_
  refine J_if_eq (pc := 4) (tgt := 16) X dX12_known_4 rfl (fun c3 => ?_) (fun c3 => ?_)
  · have hq := ite_t hq c3
    refine J_sub [] rfl ?_
    exact tB_X12_known_16 X _ _ hq
  · have hq := ite_f hq c3
    refine J_iload_n (pc := 7) X (j := 2) (i := 2) rfl rfl dX12_known_7 ?_
    refine J_if_lt (pc := 8) (tgt := 16) X dX12_known_8 rfl (fun c4 => ?_) (fun c4 => ?_)
    · have hq := ite_t hq c4
      refine J_sub [] rfl ?_
      exact tB_X12_known_16 X _ _ hq
    · have hq := ite_f hq c4
      refine J_iload_n (pc := 11) X (j := 2) (i := 2) rfl rfl dX12_known_11 ?_
      refine J_iconst (pc := 12) X (v := 1) (by decide) dX12_known_12 ?_
      refine J_icmp_le (pc := 13) (tgt := 26) X dX12_known_13 rfl (fun c5 => ?_) (fun c5 => ?_)
      · have hq := ite_t hq c5
        refine J_iconst (pc := 26) X (v := 0) (by decide) dX12_known_26 ?_
        refine J_istore_n (pc := 27) X (L' := [(3, .inl 0), (0, .inr (.inr 1)), (1, .inl x1), (2, .inl x2)]) (i := 3) rfl (by decide) rfl dX12_known_27 ?_
        refine J_iconst (pc := 28) X (v := 0) (by decide) dX12_known_28 ?_
        refine J_istore (pc := 29) X (L' := [(4, .inl 0), (3, .inl 0), (0, .inr (.inr 1)), (1, .inl x1), (2, .inl x2)]) (by decide) rfl dX12_known_29 ?_
        refine J_iconst (pc := 31) X (v := 1) (by decide) dX12_known_31 ?_
        refine J_istore (pc := 32) X (L' := [(5, .inl 1), (4, .inl 0), (3, .inl 0), (0, .inr (.inr 1)), (1, .inl x1), (2, .inl x2)]) (by decide) rfl dX12_known_32 ?_
        refine J_sub [3, 4, 5, 2, 1, 0] rfl ?_
        refine tL_X12_known_34 X _ _ _ N0 _ _ _ _ _ ?_ hq
        · intro v15 v16 h14 q hq
          refine J_iload (pc := 121) X (j := 2) rfl dX12_known_121 ?_
          refine J_if_ne (pc := 123) (tgt := 128) X dX12_known_123 rfl (fun c17 => ?_) (fun c17 => ?_)
          · have hq := ite_f hq c17
            refine J_iload_n (pc := 128) X (j := 0) (i := 2) rfl rfl dX12_known_128 ?_
            refine J_if_ne (pc := 129) (tgt := 136) X dX12_known_129 rfl (fun c18 => ?_) (fun c18 => ?_)
            · have hq := ite_f hq c18
              refine J_iload (pc := 136) X (j := 2) rfl dX12_known_136 ?_
              refine J_sub [1, 2] rfl ?_
              exact tB_X12_known_138 X _ _ _ _ _ hq
            · have hq := ite_t hq c18
              refine J_iload_n (pc := 132) X (j := 1) (i := 3) rfl rfl dX12_known_132 ?_
              refine J_goto (pc := 133) X (tgt := 138) dX12_known_133 rfl ?_
              refine J_sub [1, 2] rfl ?_
              exact tB_X12_known_138 X _ _ _ _ _ hq
          · have hq := ite_t hq c17
            refine J_iload_n (pc := 126) X (j := 0) (i := 2) rfl rfl dX12_known_126 ?_
            obtain rfl := Option.some.inj hq
            exact J_iret (pc := 127) X dX12_known_127
      · have hq := ite_f hq c5
        refine J_sub [] rfl ?_
        exact tB_X12_known_16 X _ _ hq
theorem m_X12_known (x1 : Int32) (x2 : Int32) (h : Hp) (q : (Int32 × Hp)) (hq : f_X12_known x1 x2 h = some q) : ∀ l w, CT l w yX12_known cX12_known 6 (some .int) 4 [.inr (.inr 1), .inl x1, .inl x2] h (some (.inl q.1), q.2) :=
  CT_of (L0 := [(0, .inr (.inr 1)), (1, .inl x1), (2, .inl x2)]) (by decide) rfl (Nat.le_of_ble_eq_true rfl) (fun κ X => tf_X12_known X x1 x2 h q  hq)
