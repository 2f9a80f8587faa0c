theorem tf_X12_means {κ : Kx} (X : OK κ cX12_means 2 (some .int) "StruckWords" 4) (x1 : Int32) (h : Hp) (q : (Int32 × Hp)) (hq : f_X12_means x1 h = some q) : J κ 0 [(0, .inr (.inr 1)), (1, .inl x1)] [] h (some (.inl q.1), q.2) := by
  delta f_X12_means at hq
  refine J_aload_n (pc := 0) X (j := 0) (i := 0) rfl rfl dX12_means_0 ?_
  refine J_iload_n (pc := 1) X (j := 1) (i := 1) rfl rfl dX12_means_1 ?_
  obtain ⟨v2, h1, hc, hq⟩ := bnd_e hq
  refine J_callV (pc := 2) (as := [.inl x1]) (st := []) (st2 := [.inl v2]) (r1 := (some (.inl v2), h1)) (h2 := h1) (ky := 2) X dX12_means_2 ca_X12_isBeginningOrAll ci_X12_isBeginningOrAll cs_X12_isBeginningOrAll ml_12_176 (by decide) ly1 rfl rfl (m_X12_isBeginningOrAll _ _ _ hc) rfl rfl (Nat.le_of_ble_eq_true rfl) rfl rfl ?_
  refine J_if_eq (pc := 5) (tgt := 33) X dX12_means_5 rfl (fun c3 => ?_) (fun c3 => ?_)
  · have hq := ite_t hq c3
    refine J_iconst (pc := 33) X (v := (-1)) (by decide) dX12_means_33 ?_
    obtain rfl := Option.some.inj hq
    exact J_iret (pc := 34) X dX12_means_34
  · have hq := ite_f hq c3
    refine J_aload_n (pc := 8) X (j := 0) (i := 0) rfl rfl dX12_means_8 ?_
    refine J_getF (pc := 9) X (b := 113) ly1 fl_12_43 rfl dX12_means_9 ?_
    refine J_aload_n (pc := 12) X (j := 0) (i := 0) rfl rfl dX12_means_12 ?_
    refine J_getF (pc := 13) X (b := 6) ly1 fl_12_28 rfl dX12_means_13 ?_
    refine J_getF (pc := 16) X (b := 7) ly6 fl_12_95 rfl dX12_means_16 ?_
    refine J_aload_n (pc := 19) X (j := 0) (i := 0) rfl rfl dX12_means_19 ?_
    refine J_getF (pc := 20) X (b := 6) ly1 fl_12_28 rfl dX12_means_20 ?_
    refine J_getF (pc := 23) X (b := 18) ly6 fl_12_149 rfl dX12_means_23 ?_
    refine J_iload_n (pc := 26) X (j := 1) (i := 1) rfl rfl dX12_means_26 ?_
    obtain ⟨v5, h4, hc, hq⟩ := bnd_e hq
    refine J_callV (pc := 27) (as := [.inr (.inr 7), .inr (.inr 18), .inl x1]) (st := []) (st2 := [.inl v5]) (r1 := (some (.inl v5), h4)) (h2 := h4) (ky := 3) X dX12_means_27 ca_X3_meansBy ci_X3_meansBy cs_X3_meansBy ml_12_186 (by decide) ly113 rfl rfl (m_X3_meansBy _ _ _ _ _ ly7 ly18 hc) rfl rfl (Nat.le_of_ble_eq_true rfl) rfl rfl ?_
    refine J_goto (pc := 30) X (tgt := 34) dX12_means_30 rfl ?_
    obtain rfl := Option.some.inj hq
    exact J_iret (pc := 34) X dX12_means_34
theorem m_X12_means (x1 : Int32) (h : Hp) (q : (Int32 × Hp)) (hq : f_X12_means x1 h = some q) : ∀ l w, CT l w yX12_means cX12_means 2 (some .int) 4 [.inr (.inr 1), .inl x1] h (some (.inl q.1), q.2) :=
  CT_of (L0 := [(0, .inr (.inr 1)), (1, .inl x1)]) (by decide) rfl (Nat.le_of_ble_eq_true rfl) (fun κ X => tf_X12_means X x1 h q  hq)
theorem tf_X12_readings {κ : Kx} (X : OK κ cX12_readings 2 (some .long) "StruckWords" 5) (x1 : Int32) (h : Hp) (q : (Int64 × Hp)) (hq : f_X12_readings x1 h = some q) : J κ 0 [(0, .inr (.inr 1)), (1, .inl x1)] [] h (some (.inr (.inl q.1)), q.2) := by
  delta f_X12_readings at hq
  refine J_aload_n (pc := 0) X (j := 0) (i := 0) rfl rfl dX12_readings_0 ?_
  refine J_iload_n (pc := 1) X (j := 1) (i := 1) rfl rfl dX12_readings_1 ?_
  obtain ⟨v2, h1, hc, hq⟩ := bnd_e hq
  refine J_callV (pc := 2) (as := [.inl x1]) (st := []) (st2 := [.inl v2]) (r1 := (some (.inl v2), h1)) (h2 := h1) (ky := 2) X dX12_readings_2 ca_X12_isBeginningOrAll ci_X12_isBeginningOrAll cs_X12_isBeginningOrAll ml_12_176 (by decide) ly1 rfl rfl (m_X12_isBeginningOrAll _ _ _ hc) rfl rfl (Nat.le_of_ble_eq_true rfl) rfl rfl ?_
  refine J_if_eq (pc := 5) (tgt := 37) X dX12_readings_5 rfl (fun c3 => ?_) (fun c3 => ?_)
  · have hq := ite_t hq c3
    refine J_ldc2 (pc := 37) X cl_12_194 dX12_readings_37 ?_
    obtain rfl := Option.some.inj hq
    exact J_lret (pc := 40) X dX12_readings_40
  · have hq := ite_f hq c3
    refine J_aload_n (pc := 8) X (j := 0) (i := 0) rfl rfl dX12_readings_8 ?_
    refine J_getF (pc := 9) X (b := 113) ly1 fl_12_43 rfl dX12_readings_9 ?_
    refine J_aload_n (pc := 12) X (j := 0) (i := 0) rfl rfl dX12_readings_12 ?_
    refine J_getF (pc := 13) X (b := 6) ly1 fl_12_28 rfl dX12_readings_13 ?_
    refine J_getF (pc := 16) X (b := 7) ly6 fl_12_95 rfl dX12_readings_16 ?_
    refine J_aload_n (pc := 19) X (j := 0) (i := 0) rfl rfl dX12_readings_19 ?_
    refine J_getF (pc := 20) X (b := 113) ly1 fl_12_43 rfl dX12_readings_20 ?_
    refine J_aload_n (pc := 23) X (j := 0) (i := 0) rfl rfl dX12_readings_23 ?_
    refine J_getF (pc := 24) X (b := 6) ly1 fl_12_28 rfl dX12_readings_24 ?_
    refine J_iload_n (pc := 27) X (j := 1) (i := 1) rfl rfl dX12_readings_27 ?_
    obtain ⟨r5, h4, hc, hq⟩ := bnd_e hq
    refine J_callV (pc := 28) (as := [.inr (.inr 6), .inl x1]) (st := [.inr (.inr 7), .inr (.inr 113)]) (st2 := [.inr (.inr r5), .inr (.inr 7), .inr (.inr 113)]) (r1 := (some (.inr (.inr r5)), h4)) (h2 := h4) (ky := 2) X dX12_readings_28 ca_X3_strike ci_X3_strike cs_X3_strike ml_12_179 (by decide) ly113 rfl rfl (m_X3_strike _ _ _ _ ly6 hc) rfl rfl (Nat.le_of_ble_eq_true rfl) rfl rfl ?_
    obtain ⟨g6, hq⟩ := gd hq
    obtain ⟨v8, h7, hc, hq⟩ := bnd_e hq
    refine J_callV (pc := 31) (as := [.inr (.inr 7), .inr (.inr r5)]) (st := []) (st2 := [.inr (.inl v8)]) (r1 := (some (.inr (.inl v8)), h7)) (h2 := h7) (ky := 4) X dX12_readings_31 ca_X3_countReadings ci_X3_countReadings cs_X3_countReadings ml_12_190 (by decide) ly113 rfl rfl (m_X3_countReadings _ _ _ _ ly7 (isO_lay g6) hc) rfl rfl (Nat.le_of_ble_eq_true rfl) rfl rfl ?_
    refine J_goto (pc := 34) X (tgt := 40) dX12_readings_34 rfl ?_
    obtain rfl := Option.some.inj hq
    exact J_lret (pc := 40) X dX12_readings_40
theorem m_X12_readings (x1 : Int32) (h : Hp) (q : (Int64 × Hp)) (hq : f_X12_readings x1 h = some q) : ∀ l w, CT l w yX12_readings cX12_readings 2 (some .long) 5 [.inr (.inr 1), .inl x1] h (some (.inr (.inl q.1)), q.2) :=
  CT_of (L0 := [(0, .inr (.inr 1)), (1, .inl x1)]) (by decide) rfl (Nat.le_of_ble_eq_true rfl) (fun κ X => tf_X12_readings X x1 h q  hq)
theorem tf_X12_sortAt {κ : Kx} (X : OK κ cX12_sortAt 4 (some .int) "StruckWords" 5) (x1 : Int32) (x2 : Int32) (h : Hp) (q : (Int32 × Hp)) (hq : f_X12_sortAt x1 x2 h = some q) : J κ 0 [(0, .inr (.inr 1)), (1, .inl x1), (2, .inl x2)] [] h (some (.inl q.1), q.2) := by
  delta f_X12_sortAt at hq
  refine J_aload_n (pc := 0) X (j := 0) (i := 0) rfl rfl dX12_sortAt_0 ?_
  refine J_iload_n (pc := 1) X (j := 1) (i := 1) rfl rfl dX12_sortAt_1 ?_
  obtain ⟨v2, h1, hc, hq⟩ := bnd_e hq
  refine J_callV (pc := 2) (as := [.inl x1]) (st := []) (st2 := [.inl v2]) (r1 := (some (.inl v2), h1)) (h2 := h1) (ky := 2) X dX12_sortAt_2 ca_X12_isBeginningOrAll ci_X12_isBeginningOrAll cs_X12_isBeginningOrAll ml_12_176 (by decide) ly1 rfl rfl (m_X12_isBeginningOrAll _ _ _ hc) rfl rfl (Nat.le_of_ble_eq_true rfl) rfl rfl ?_
  refine J_if_ne (pc := 5) (tgt := 10) X dX12_sortAt_5 rfl (fun c3 => ?_) (fun c3 => ?_)
  · have hq := ite_f hq c3
    refine J_aload_n (pc := 10) X (j := 0) (i := 0) rfl rfl dX12_sortAt_10 ?_
    refine J_getF (pc := 11) X (b := 113) ly1 fl_12_43 rfl dX12_sortAt_11 ?_
    refine J_aload_n (pc := 14) X (j := 0) (i := 0) rfl rfl dX12_sortAt_14 ?_
    refine J_getF (pc := 15) X (b := 6) ly1 fl_12_28 rfl dX12_sortAt_15 ?_
    refine J_iload_n (pc := 18) X (j := 1) (i := 1) rfl rfl dX12_sortAt_18 ?_
    obtain ⟨r5, h4, hc, hq⟩ := bnd_e hq
    refine J_callV (pc := 19) (as := [.inr (.inr 6), .inl x1]) (st := []) (st2 := [.inr (.inr r5)]) (r1 := (some (.inr (.inr r5)), h4)) (h2 := h4) (ky := 2) X dX12_sortAt_19 ca_X3_strike ci_X3_strike cs_X3_strike ml_12_179 (by decide) ly113 rfl rfl (m_X3_strike _ _ _ _ ly6 hc) rfl rfl (Nat.le_of_ble_eq_true rfl) rfl rfl ?_
    obtain ⟨g6, hq⟩ := gd hq
    refine J_astore_n (pc := 22) X (L' := [(3, .inr (.inr r5)), (0, .inr (.inr 1)), (1, .inl x1), (2, .inl x2)]) (i := 3) rfl (by decide) rfl dX12_sortAt_22 ?_
    refine J_iload_n (pc := 23) X (j := 3) (i := 2) rfl rfl dX12_sortAt_23 ?_
    refine J_if_lt (pc := 24) (tgt := 53) X dX12_sortAt_24 rfl (fun c7 => ?_) (fun c7 => ?_)
    · have hq := ite_t hq c7
      refine J_iconst (pc := 53) X (v := (-1)) (by decide) dX12_sortAt_53 ?_
      obtain rfl := Option.some.inj hq
      exact J_iret (pc := 54) X dX12_sortAt_54
    · have hq := ite_f hq c7
      refine J_iload_n (pc := 27) X (j := 3) (i := 2) rfl rfl dX12_sortAt_27 ?_
      refine J_aload_n (pc := 28) X (j := 0) (i := 3) rfl rfl dX12_sortAt_28 ?_
      refine J_getI (pc := 29) X (isO_lay g6) fl_12_74 dX12_sortAt_29 ?_
      refine J_icmp_ge (pc := 32) (tgt := 53) X dX12_sortAt_32 rfl (fun c8 => ?_) (fun c8 => ?_)
      · have hq := ite_t hq c8
        refine J_iconst (pc := 53) X (v := (-1)) (by decide) dX12_sortAt_53 ?_
        obtain rfl := Option.some.inj hq
        exact J_iret (pc := 54) X dX12_sortAt_54
      · have hq := ite_f hq c8
        refine J_aload_n (pc := 35) X (j := 1) (i := 0) rfl rfl dX12_sortAt_35 ?_
        refine J_getF (pc := 36) X (b := 113) ly1 fl_12_43 rfl dX12_sortAt_36 ?_
        refine J_aload_n (pc := 39) X (j := 1) (i := 0) rfl rfl dX12_sortAt_39 ?_
        refine J_getF (pc := 40) X (b := 6) ly1 fl_12_28 rfl dX12_sortAt_40 ?_
        refine J_getF (pc := 43) X (b := 7) ly6 fl_12_95 rfl dX12_sortAt_43 ?_
        refine J_aload_n (pc := 46) X (j := 0) (i := 3) rfl rfl dX12_sortAt_46 ?_
        obtain ⟨v10, h9, hc, hq⟩ := bnd_e hq
        refine J_callV (pc := 47) (as := [.inr (.inr 7), .inr (.inr r5)]) (st := []) (st2 := [.inl v10]) (r1 := (some (.inl v10), h9)) (h2 := h9) (ky := 4) X dX12_sortAt_47 ca_X3_readFirst ci_X3_readFirst cs_X3_readFirst ml_12_196 (by decide) ly113 rfl rfl (m_X3_readFirst _ _ _ _ ly7 (isO_lay g6) hc) rfl rfl (Nat.le_of_ble_eq_true rfl) rfl rfl ?_
        refine J_if_ne (pc := 50) (tgt := 55) X dX12_sortAt_50 rfl (fun c11 => ?_) (fun c11 => ?_)
        · have hq := ite_f hq c11
          refine J_aload_n (pc := 55) X (j := 1) (i := 0) rfl rfl dX12_sortAt_55 ?_
          refine J_getF (pc := 56) X (b := 113) ly1 fl_12_43 rfl dX12_sortAt_56 ?_
          refine J_iload_n (pc := 59) X (j := 3) (i := 2) rfl rfl dX12_sortAt_59 ?_
          obtain ⟨v13, h12, hc, hq⟩ := bnd_e hq
          refine J_callV (pc := 60) (as := [.inl x2]) (st := []) (st2 := [.inl v13]) (r1 := (some (.inl v13), h12)) (h2 := h12) (ky := 1) X dX12_sortAt_60 ca_X3_sortRead ci_X3_sortRead cs_X3_sortRead ml_12_200 (by decide) ly113 rfl rfl (m_X3_sortRead _ _ _ hc) rfl rfl (Nat.le_of_ble_eq_true rfl) rfl rfl ?_
          obtain rfl := Option.some.inj hq
          exact J_iret (pc := 63) X dX12_sortAt_63
        · have hq := ite_t hq c11
          refine J_iconst (pc := 53) X (v := (-1)) (by decide) dX12_sortAt_53 ?_
          obtain rfl := Option.some.inj hq
          exact J_iret (pc := 54) X dX12_sortAt_54
  · have hq := ite_t hq c3
    refine J_iconst (pc := 8) X (v := (-1)) (by decide) dX12_sortAt_8 ?_
    obtain rfl := Option.some.inj hq
    exact J_iret (pc := 9) X dX12_sortAt_9
theorem m_X12_sortAt (x1 : Int32) (x2 : Int32) (h : Hp) (q : (Int32 × Hp)) (hq : f_X12_sortAt x1 x2 h = some q) : ∀ l w, CT l w yX12_sortAt cX12_sortAt 4 (some .int) 5 [.inr (.inr 1), .inl x1, .inl x2] h (some (.inl q.1), q.2) :=
  CT_of (L0 := [(0, .inr (.inr 1)), (1, .inl x1), (2, .inl x2)]) (by decide) rfl (Nat.le_of_ble_eq_true rfl) (fun κ X => tf_X12_sortAt X x1 x2 h q  hq)
theorem tf_X12_turns {κ : Kx} (X : OK κ cX12_turns 1 (some .int) "StruckWords" 5) (h : Hp) (q : (Int32 × Hp)) (hq : f_X12_turns h = some q) : J κ 0 [(0, .inr (.inr 1))] [] h (some (.inl q.1), q.2) := by
  delta f_X12_turns at hq
  refine J_aload_n (pc := 0) X (j := 0) (i := 0) rfl rfl dX12_turns_0 ?_
  refine J_getF (pc := 1) X (b := 113) ly1 fl_12_43 rfl dX12_turns_1 ?_
  refine J_aload_n (pc := 4) X (j := 0) (i := 0) rfl rfl dX12_turns_4 ?_
  refine J_getF (pc := 5) X (b := 6) ly1 fl_12_28 rfl dX12_turns_5 ?_
  refine J_getF (pc := 8) X (b := 7) ly6 fl_12_95 rfl dX12_turns_8 ?_
  refine J_aload_n (pc := 11) X (j := 0) (i := 0) rfl rfl dX12_turns_11 ?_
  refine J_getF (pc := 12) X (b := 6) ly1 fl_12_28 rfl dX12_turns_12 ?_
  refine J_getF (pc := 15) X (b := 18) ly6 fl_12_149 rfl dX12_turns_15 ?_
  obtain ⟨v2, h1, hc, hq⟩ := bnd_e hq
  refine J_callV (pc := 18) (as := [.inr (.inr 7), .inr (.inr 18)]) (st := []) (st2 := [.inl v2]) (r1 := (some (.inl v2), h1)) (h2 := h1) (ky := 4) X dX12_turns_18 ca_X3_turnsOf ci_X3_turnsOf cs_X3_turnsOf ml_12_203 (by decide) ly113 rfl rfl (m_X3_turnsOf _ _ _ _ ly7 ly18 hc) rfl rfl (Nat.le_of_ble_eq_true rfl) rfl rfl ?_
  obtain rfl := Option.some.inj hq
  exact J_iret (pc := 21) X dX12_turns_21
theorem m_X12_turns (h : Hp) (q : (Int32 × Hp)) (hq : f_X12_turns  h = some q) : ∀ l w, CT l w yX12_turns cX12_turns 1 (some .int) 5 [.inr (.inr 1)] h (some (.inl q.1), q.2) :=
  CT_of (L0 := [(0, .inr (.inr 1))]) (by decide) rfl (Nat.le_of_ble_eq_true rfl) (fun κ X => tf_X12_turns X  h q  hq)
theorem tB_X12_areAgainst_53 {κ : Kx} (X : OK κ cX12_areAgainst 6 (some .boolean) "StruckWords" 2) (x4 : Int32) (t0 : Int32) (h : Hp) (q : (Int32 × Hp)) (hq : B_X12_areAgainst_53 x4 t0 h = some q) : J κ 53 [(4, .inl x4)] [.inl t0] h (some (.inl q.1), q.2) := by
  delta B_X12_areAgainst_53 at hq
  refine J_istore (pc := 53) X (L' := [(5, .inl t0), (4, .inl x4)]) (by decide) rfl dX12_areAgainst_53 ?_
  refine J_iload (pc := 55) X (j := 1) rfl dX12_areAgainst_55 ?_
  refine J_if_ne (pc := 57) (tgt := 65) X dX12_areAgainst_57 rfl (fun c7 => ?_) (fun c7 => ?_)
  · have hq := ite_f hq c7
    refine J_iconst (pc := 65) X (v := 1) (by decide) dX12_areAgainst_65 ?_
    refine J_goto (pc := 66) X (tgt := 70) dX12_areAgainst_66 rfl ?_
    obtain rfl := Option.some.inj hq
    exact J_zret (pc := 70) X (by decide) dX12_areAgainst_70
  · have hq := ite_t hq c7
    refine J_iload (pc := 60) X (j := 0) rfl dX12_areAgainst_60 ?_
    refine J_if_eq (pc := 62) (tgt := 69) X dX12_areAgainst_62 rfl (fun c8 => ?_) (fun c8 => ?_)
    · have hq := ite_t hq c8
      refine J_iconst (pc := 69) X (v := 0) (by decide) dX12_areAgainst_69 ?_
      obtain rfl := Option.some.inj hq
      exact J_zret (pc := 70) X (by decide) dX12_areAgainst_70
    · have hq := ite_f hq c8
      refine J_iconst (pc := 65) X (v := 1) (by decide) dX12_areAgainst_65 ?_
      refine J_goto (pc := 66) X (tgt := 70) dX12_areAgainst_66 rfl ?_
      obtain rfl := Option.some.inj hq
      exact J_zret (pc := 70) X (by decide) dX12_areAgainst_70
theorem tB_X12_areAgainst_33 {κ : Kx} (X : OK κ cX12_areAgainst 6 (some .boolean) "StruckWords" 2) (x0 : Int32) (x1 : Int32) (x3 : Int32) (t0 : Int32) (h : Hp) (q : (Int32 × Hp)) (hq : B_X12_areAgainst_33 x0 x1 x3 t0 h = some q) : J κ 33 [(0, .inl x0), (1, .inl x1), (3, .inl x3)] [.inl t0] h (some (.inl q.1), q.2) := by
  delta B_X12_areAgainst_33 at hq
  refine J_istore (pc := 33) X (L' := [(4, .inl t0), (0, .inl x0), (1, .inl x1), (3, .inl x3)]) (by decide) rfl dX12_areAgainst_33 ?_
  refine J_iload_n (pc := 35) X (j := 2) (i := 1) rfl rfl dX12_areAgainst_35 ?_
  refine J_iload_n (pc := 36) X (j := 3) (i := 3) rfl rfl dX12_areAgainst_36 ?_
  refine J_iand (pc := 37) X dX12_areAgainst_37 ?_
  refine J_iload_n (pc := 38) X (j := 2) (i := 1) rfl rfl dX12_areAgainst_38 ?_
  refine J_icmp_ne (pc := 39) (tgt := 52) X dX12_areAgainst_39 rfl (fun c6 => ?_) (fun c6 => ?_)
  · have hq := ite_f hq c6
    refine J_iconst (pc := 52) X (v := 0) (by decide) dX12_areAgainst_52 ?_
    refine J_sub [0] rfl ?_
    exact tB_X12_areAgainst_53 X _ _ _ _ hq
  · have hq := ite_t hq c6
    refine J_iload_n (pc := 42) X (j := 1) (i := 0) rfl rfl dX12_areAgainst_42 ?_
    refine J_iload_n (pc := 43) X (j := 3) (i := 3) rfl rfl dX12_areAgainst_43 ?_
    refine J_iand (pc := 44) X dX12_areAgainst_44 ?_
    refine J_if_ne (pc := 45) (tgt := 52) X dX12_areAgainst_45 rfl (fun c9 => ?_) (fun c9 => ?_)
    · have hq := ite_f hq c9
      refine J_iconst (pc := 52) X (v := 0) (by decide) dX12_areAgainst_52 ?_
      refine J_sub [0] rfl ?_
      exact tB_X12_areAgainst_53 X _ _ _ _ hq
    · have hq := ite_t hq c9
      refine J_iconst (pc := 48) X (v := 1) (by decide) dX12_areAgainst_48 ?_
      refine J_goto (pc := 49) X (tgt := 53) dX12_areAgainst_49 rfl ?_
      refine J_sub [0] rfl ?_
      exact tB_X12_areAgainst_53 X _ _ _ _ hq
theorem tf_X12_areAgainst {κ : Kx} (X : OK κ cX12_areAgainst 6 (some .boolean) "StruckWords" 2) (x0 : Int32) (x1 : Int32) (x2 : Int32) (h : Hp) (q : (Int32 × Hp)) (hq : f_X12_areAgainst x0 x1 x2 h = some q) : J κ 0 [(0, .inl x0), (1, .inl x1), (2, .inl x2)] [] h (some (.inl q.1), q.2) := by
  delta f_X12_areAgainst at hq
  refine J_iload_n (pc := 0) X (j := 0) (i := 0) rfl rfl dX12_areAgainst_0 ?_
  refine J_if_eq (pc := 1) (tgt := 8) X dX12_areAgainst_1 rfl (fun c1 => ?_) (fun c1 => ?_)
  · have hq := ite_t hq c1
    refine J_iconst (pc := 8) X (v := 0) (by decide) dX12_areAgainst_8 ?_
    obtain rfl := Option.some.inj hq
    exact J_zret (pc := 9) X (by decide) dX12_areAgainst_9
  · have hq := ite_f hq c1
    refine J_iload_n (pc := 4) X (j := 1) (i := 1) rfl rfl dX12_areAgainst_4 ?_
    refine J_if_ne (pc := 5) (tgt := 10) X dX12_areAgainst_5 rfl (fun c2 => ?_) (fun c2 => ?_)
    · have hq := ite_f hq c2
      refine J_iload_n (pc := 10) X (j := 2) (i := 2) rfl rfl dX12_areAgainst_10 ?_
      obtain ⟨v4, h3, hc, hq⟩ := bnd_e hq
      refine J_callS (pc := 11) (as := [.inl x2]) (st := []) (st2 := [.inl v4]) (r1 := (some (.inl v4), h3)) (h2 := h3) (ky := 1) X dX12_areAgainst_11 ca_X12_meaningsWith cz_X12_meaningsWith ml_12_354 (by decide) (m_X12_meaningsWith _ _ _ hc) rfl rfl (Nat.le_of_ble_eq_true rfl) rfl rfl ?_
      refine J_istore_n (pc := 14) X (L' := [(3, .inl v4), (0, .inl x0), (1, .inl x1), (2, .inl x2)]) (i := 3) rfl (by decide) rfl dX12_areAgainst_14 ?_
      refine J_iload_n (pc := 15) X (j := 1) (i := 0) rfl rfl dX12_areAgainst_15 ?_
      refine J_iload_n (pc := 16) X (j := 0) (i := 3) rfl rfl dX12_areAgainst_16 ?_
      refine J_iand (pc := 17) X dX12_areAgainst_17 ?_
      refine J_iload_n (pc := 18) X (j := 1) (i := 0) rfl rfl dX12_areAgainst_18 ?_
      refine J_icmp_ne (pc := 19) (tgt := 32) X dX12_areAgainst_19 rfl (fun c5 => ?_) (fun c5 => ?_)
      · have hq := ite_f hq c5
        refine J_iconst (pc := 32) X (v := 0) (by decide) dX12_areAgainst_32 ?_
        refine J_sub [1, 2, 0] rfl ?_
        exact tB_X12_areAgainst_33 X _ _ _ _ _ _ hq
      · have hq := ite_t hq c5
        refine J_iload_n (pc := 22) X (j := 2) (i := 1) rfl rfl dX12_areAgainst_22 ?_
        refine J_iload_n (pc := 23) X (j := 0) (i := 3) rfl rfl dX12_areAgainst_23 ?_
        refine J_iand (pc := 24) X dX12_areAgainst_24 ?_
        refine J_if_ne (pc := 25) (tgt := 32) X dX12_areAgainst_25 rfl (fun c10 => ?_) (fun c10 => ?_)
        · have hq := ite_f hq c10
          refine J_iconst (pc := 32) X (v := 0) (by decide) dX12_areAgainst_32 ?_
          refine J_sub [1, 2, 0] rfl ?_
          exact tB_X12_areAgainst_33 X _ _ _ _ _ _ hq
        · have hq := ite_t hq c10
          refine J_iconst (pc := 28) X (v := 1) (by decide) dX12_areAgainst_28 ?_
          refine J_goto (pc := 29) X (tgt := 33) dX12_areAgainst_29 rfl ?_
          refine J_sub [1, 2, 0] rfl ?_
          exact tB_X12_areAgainst_33 X _ _ _ _ _ _ hq
    · have hq := ite_t hq c2
      refine J_iconst (pc := 8) X (v := 0) (by decide) dX12_areAgainst_8 ?_
      obtain rfl := Option.some.inj hq
      exact J_zret (pc := 9) X (by decide) dX12_areAgainst_9
theorem m_X12_areAgainst (x0 : Int32) (x1 : Int32) (x2 : Int32) (h : Hp) (q : (Int32 × Hp)) (hq : f_X12_areAgainst x0 x1 x2 h = some q) : ∀ l w, CT l w yX12_areAgainst cX12_areAgainst 6 (some .boolean) 2 [.inl x0, .inl x1, .inl x2] h (some (.inl q.1), q.2) :=
  CT_of (L0 := [(0, .inl x0), (1, .inl x1), (2, .inl x2)]) (by decide) rfl (Nat.le_of_ble_eq_true rfl) (fun κ X => tf_X12_areAgainst X x0 x1 x2 h q  hq)
theorem tF_X12_against_48 {κ : Kx} (X : OK κ cX12_against 5 (some .int) "StruckWords" 4) (x1 : Int32) (x2 : Int32) (k110 : Int32 → Hp → Option (Int32 × Hp)) (self : Int32 → Int32 → Hp → Option (Int32 × Hp)) (x3 : Int32) (x4 : Int32) (h : Hp) (q : (Int32 × Hp)) (hk110 : ∀ (x3 : Int32) (h : Hp) (q : (Int32 × Hp)), k110 x3 h = some q → J κ 110 [(3, .inl x3)] [] h (some (.inl q.1), q.2)) (hself : ∀ (x3 : Int32) (x4 : Int32) (h : Hp) (q : (Int32 × Hp)), self x3 x4 h = some q → J κ 48 [(0, .inr (.inr 1)), (1, .inl x1), (2, .inl x2), (3, .inl x3), (4, .inl x4)] [] h (some (.inl q.1), q.2)) (hq : F_X12_against_48 x1 x2 k110 self x3 x4 h = some q) : J κ 48 [(0, .inr (.inr 1)), (1, .inl x1), (2, .inl x2), (3, .inl x3), (4, .inl x4)] [] h (some (.inl q.1), q.2) := by
  delta F_X12_against_48 at hq
  refine J_iload (pc := 48) X (j := 4) rfl dX12_against_48 ?_
  refine J_aload_n (pc := 50) X (j := 0) (i := 0) rfl rfl dX12_against_50 ?_
  refine J_getF (pc := 51) X (b := 6) ly1 fl_12_28 rfl dX12_against_51 ?_
  refine J_getF (pc := 54) X (b := 7) ly6 fl_12_95 rfl dX12_against_54 ?_
  refine J_getF (pc := 57) X (b := 9) ly7 fl_12_210 rfl dX12_against_57 ?_
  refine J_getI (pc := 60) X ly9 fl_12_214 dX12_against_60 ?_
  refine J_icmp_gt (pc := 63) (tgt := 110) X dX12_against_63 rfl (fun c5 => ?_) (fun c5 => ?_)
  · have hq := ite_t hq c5
    refine J_sub [3] rfl ?_
    exact hk110 _ _ _ hq
  · have hq := ite_f hq c5
    refine J_iload_n (pc := 66) X (j := 2) (i := 2) rfl rfl dX12_against_66 ?_
    refine J_aload_n (pc := 67) X (j := 0) (i := 0) rfl rfl dX12_against_67 ?_
    refine J_getF (pc := 68) X (b := 113) ly1 fl_12_43 rfl dX12_against_68 ?_
    refine J_aload_n (pc := 71) X (j := 0) (i := 0) rfl rfl dX12_against_71 ?_
    refine J_getF (pc := 72) X (b := 6) ly1 fl_12_28 rfl dX12_against_72 ?_
    refine J_getF (pc := 75) X (b := 7) ly6 fl_12_95 rfl dX12_against_75 ?_
    refine J_aload_n (pc := 78) X (j := 0) (i := 0) rfl rfl dX12_against_78 ?_
    refine J_getF (pc := 79) X (b := 6) ly1 fl_12_28 rfl dX12_against_79 ?_
    refine J_getF (pc := 82) X (b := 18) ly6 fl_12_149 rfl dX12_against_82 ?_
    refine J_iload (pc := 85) X (j := 4) rfl dX12_against_85 ?_
    obtain ⟨v7, h6, hc, hq⟩ := bnd_e hq
    refine J_callV (pc := 87) (as := [.inr (.inr 7), .inr (.inr 18), .inl x4]) (st := [.inl x2]) (st2 := [.inl v7, .inl x2]) (r1 := (some (.inl v7), h6)) (h2 := h6) (ky := 3) X dX12_against_87 ca_X3_meansBy ci_X3_meansBy cs_X3_meansBy ml_12_186 (by decide) ly113 rfl rfl (m_X3_meansBy _ _ _ _ _ ly7 ly18 hc) rfl rfl (Nat.le_of_ble_eq_true rfl) rfl rfl ?_
    refine J_iload_n (pc := 90) X (j := 1) (i := 1) rfl rfl dX12_against_90 ?_
    obtain ⟨v9, h8, hc, hq⟩ := bnd_e hq
    refine J_callS (pc := 91) (as := [.inl x2, .inl v7, .inl x1]) (st := []) (st2 := [.inl v9]) (r1 := (some (.inl v9), h8)) (h2 := h8) (ky := 2) X dX12_against_91 ca_X12_areAgainst cz_X12_areAgainst ml_12_219 (by decide) (m_X12_areAgainst _ _ _ _ _ hc) rfl rfl (Nat.le_of_ble_eq_true rfl) rfl rfl ?_
    refine J_if_eq (pc := 94) (tgt := 104) X dX12_against_94 rfl (fun c10 => ?_) (fun c10 => ?_)
    · have hq := ite_t hq c10
      refine J_iinc (pc := 104) X (j := 4) (v := 1) (L' := [(4, .inl (x4 + 1)), (0, .inr (.inr 1)), (1, .inl x1), (2, .inl x2), (3, .inl x3)]) rfl (by decide) (by decide) rfl dX12_against_104 ?_
      refine J_goto (pc := 107) X (tgt := 48) dX12_against_107 rfl ?_
      refine J_sub [1, 2, 3, 4, 0] rfl ?_
      exact hself _ _ _ _ hq
    · have hq := ite_f hq c10
      refine J_iload_n (pc := 97) X (j := 3) (i := 3) rfl rfl dX12_against_97 ?_
      refine J_iconst (pc := 98) X (v := 1) (by decide) dX12_against_98 ?_
      refine J_iload (pc := 99) X (j := 4) rfl dX12_against_99 ?_
      refine J_ishl (pc := 101) X dX12_against_101 ?_
      refine J_ior (pc := 102) X dX12_against_102 ?_
      refine J_ltI hq (fun v11 hq => ?_)
      refine J_istore_n (pc := 103) X (L' := [(3, .inl v11), (0, .inr (.inr 1)), (1, .inl x1), (2, .inl x2), (4, .inl x4)]) (i := 3) rfl (by decide) rfl dX12_against_103 ?_
      refine J_iinc (pc := 104) X (j := 4) (v := 1) (L' := [(4, .inl (x4 + 1)), (3, .inl v11), (0, .inr (.inr 1)), (1, .inl x1), (2, .inl x2)]) rfl (by decide) (by decide) rfl dX12_against_104 ?_
      refine J_goto (pc := 107) X (tgt := 48) dX12_against_107 rfl ?_
      refine J_sub [2, 3, 4, 1, 0] rfl ?_
      exact hself _ _ _ _ hq
theorem tL_X12_against_48 {κ : Kx} (X : OK κ cX12_against 5 (some .int) "StruckWords" 4) (x1 : Int32) (x2 : Int32) (k110 : Int32 → Hp → Option (Int32 × Hp)) (N : Nat) (x3 : Int32) (x4 : Int32) (h : Hp) (q : (Int32 × Hp)) (hk110 : ∀ (x3 : Int32) (h : Hp) (q : (Int32 × Hp)), k110 x3 h = some q → J κ 110 [(3, .inl x3)] [] h (some (.inl q.1), q.2)) (hq : itr3 (F_X12_against_48 x1 x2 k110) N x3 x4 h = some q) : J κ 48 [(0, .inr (.inr 1)), (1, .inl x1), (2, .inl x2), (3, .inl x3), (4, .inl x4)] [] h (some (.inl q.1), q.2) :=
  itr3_ind (fun self hs x3 x4 h q hq => tF_X12_against_48 X x1 x2 k110 self x3 x4 h q hk110 hs hq) N x3 x4 h q hq
theorem tf_X12_against {κ : Kx} (X : OK κ cX12_against 5 (some .int) "StruckWords" 4) (x1 : Int32) (h : Hp) (q : (Int32 × Hp)) (hq : f_X12_against x1 h = some q) : J κ 0 [(0, .inr (.inr 1)), (1, .inl x1)] [] h (some (.inl q.1), q.2) := by
  delta f_X12_against at hq
  refine J_iload_n (pc := 0) X (j := 1) (i := 1) rfl rfl dX12_against_0 ?_
  refine J_if_lt (pc := 1) (tgt := 18) X dX12_against_1 rfl (fun c1 => ?_) (fun c1 => ?_)
  · have hq := ite_t hq c1
    refine J_iconst (pc := 18) X (v := (-1)) (by decide) dX12_against_18 ?_
    obtain rfl := Option.some.inj hq
    exact J_iret (pc := 19) X dX12_against_19
  · have hq := ite_f hq c1
    refine J_iload_n (pc := 4) X (j := 1) (i := 1) rfl rfl dX12_against_4 ?_
    refine J_aload_n (pc := 5) X (j := 0) (i := 0) rfl rfl dX12_against_5 ?_
    refine J_getF (pc := 6) X (b := 6) ly1 fl_12_28 rfl dX12_against_6 ?_
    refine J_getF (pc := 9) X (b := 7) ly6 fl_12_95 rfl dX12_against_9 ?_
    refine J_getI (pc := 12) X ly7 fl_12_207 dX12_against_12 ?_
    refine J_icmp_lt (pc := 15) (tgt := 20) X dX12_against_15 rfl (fun c2 => ?_) (fun c2 => ?_)
    · have hq := ite_t hq c2
      refine J_aload_n (pc := 20) X (j := 0) (i := 0) rfl rfl dX12_against_20 ?_
      refine J_getF (pc := 21) X (b := 113) ly1 fl_12_43 rfl dX12_against_21 ?_
      refine J_aload_n (pc := 24) X (j := 0) (i := 0) rfl rfl dX12_against_24 ?_
      refine J_getF (pc := 25) X (b := 6) ly1 fl_12_28 rfl dX12_against_25 ?_
      refine J_getF (pc := 28) X (b := 7) ly6 fl_12_95 rfl dX12_against_28 ?_
      refine J_aload_n (pc := 31) X (j := 0) (i := 0) rfl rfl dX12_against_31 ?_
      refine J_getF (pc := 32) X (b := 6) ly1 fl_12_28 rfl dX12_against_32 ?_
      refine J_getF (pc := 35) X (b := 18) ly6 fl_12_149 rfl dX12_against_35 ?_
      refine J_iconst (pc := 38) X (v := 0) (by decide) dX12_against_38 ?_
      obtain ⟨v4, h3, hc, hq⟩ := bnd_e hq
      refine J_callV (pc := 39) (as := [.inr (.inr 7), .inr (.inr 18), .inl 0]) (st := []) (st2 := [.inl v4]) (r1 := (some (.inl v4), h3)) (h2 := h3) (ky := 3) X dX12_against_39 ca_X3_meansBy ci_X3_meansBy cs_X3_meansBy ml_12_186 (by decide) ly113 rfl rfl (m_X3_meansBy _ _ _ _ _ ly7 ly18 hc) rfl rfl (Nat.le_of_ble_eq_true rfl) rfl rfl ?_
      refine J_istore_n (pc := 42) X (L' := [(2, .inl v4), (0, .inr (.inr 1)), (1, .inl x1)]) (i := 2) rfl (by decide) rfl dX12_against_42 ?_
      refine J_iconst (pc := 43) X (v := 0) (by decide) dX12_against_43 ?_
      refine J_istore_n (pc := 44) X (L' := [(3, .inl 0), (2, .inl v4), (0, .inr (.inr 1)), (1, .inl x1)]) (i := 3) rfl (by decide) rfl dX12_against_44 ?_
      refine J_iconst (pc := 45) X (v := 1) (by decide) dX12_against_45 ?_
      refine J_istore (pc := 46) X (L' := [(4, .inl 1), (3, .inl 0), (2, .inl v4), (0, .inr (.inr 1)), (1, .inl x1)]) (by decide) rfl dX12_against_46 ?_
      refine J_sub [3, 4, 2, 1, 0] rfl ?_
      refine tL_X12_against_48 X _ _ _ N0 _ _ _ _ ?_ hq
      · intro v13 h12 q hq
        refine J_iload_n (pc := 110) X (j := 0) (i := 3) rfl rfl dX12_against_110 ?_
        obtain rfl := Option.some.inj hq
        exact J_iret (pc := 111) X dX12_against_111
    · have hq := ite_f hq c2
      refine J_iconst (pc := 18) X (v := (-1)) (by decide) dX12_against_18 ?_
      obtain rfl := Option.some.inj hq
      exact J_iret (pc := 19) X dX12_against_19
theorem m_X12_against (x1 : Int32) (h : Hp) (q : (Int32 × Hp)) (hq : f_X12_against x1 h = some q) : ∀ l w, CT l w yX12_against cX12_against 5 (some .int) 4 [.inr (.inr 1), .inl x1] h (some (.inl q.1), q.2) :=
  CT_of (L0 := [(0, .inr (.inr 1)), (1, .inl x1)]) (by decide) rfl (Nat.le_of_ble_eq_true rfl) (fun κ X => tf_X12_against X x1 h q  hq)
theorem tf_X12_twice {κ : Kx} (X : OK κ cX12_twice 3 (some .int) "StruckWords" 4) (x1 : Int32) (x2 : Int32) (h : Hp) (q : (Int32 × Hp)) (hq : f_X12_twice x1 x2 h = some q) : J κ 0 [(0, .inr (.inr 1)), (1, .inl x1), (2, .inl x2)] [] h (some (.inl q.1), q.2) := by
  delta f_X12_twice at hq
  refine J_aload_n (pc := 0) X (j := 0) (i := 0) rfl rfl dX12_twice_0 ?_
  refine J_iload_n (pc := 1) X (j := 1) (i := 1) rfl rfl dX12_twice_1 ?_
  obtain ⟨v2, h1, hc, hq⟩ := bnd_e hq
  refine J_callV (pc := 2) (as := [.inl x1]) (st := []) (st2 := [.inl v2]) (r1 := (some (.inl v2), h1)) (h2 := h1) (ky := 1) X dX12_twice_2 ca_X12_isBeginning ci_X12_isBeginning cs_X12_isBeginning ml_12_223 (by decide) ly1 rfl rfl (m_X12_isBeginning _ _ _ hc) rfl rfl (Nat.le_of_ble_eq_true rfl) rfl rfl ?_
  refine J_if_eq (pc := 5) (tgt := 16) X dX12_twice_5 rfl (fun c3 => ?_) (fun c3 => ?_)
  · have hq := ite_t hq c3
    refine J_iconst (pc := 16) X (v := (-1)) (by decide) dX12_twice_16 ?_
    obtain rfl := Option.some.inj hq
    exact J_iret (pc := 17) X dX12_twice_17
  · have hq := ite_f hq c3
    refine J_aload_n (pc := 8) X (j := 0) (i := 0) rfl rfl dX12_twice_8 ?_
    refine J_iload_n (pc := 9) X (j := 2) (i := 2) rfl rfl dX12_twice_9 ?_
    obtain ⟨v5, h4, hc, hq⟩ := bnd_e hq
    refine J_callV (pc := 10) (as := [.inl x2]) (st := []) (st2 := [.inl v5]) (r1 := (some (.inl v5), h4)) (h2 := h4) (ky := 1) X dX12_twice_10 ca_X12_isBeginning ci_X12_isBeginning cs_X12_isBeginning ml_12_223 (by decide) ly1 rfl rfl (m_X12_isBeginning _ _ _ hc) rfl rfl (Nat.le_of_ble_eq_true rfl) rfl rfl ?_
    refine J_if_ne (pc := 13) (tgt := 18) X dX12_twice_13 rfl (fun c6 => ?_) (fun c6 => ?_)
    · have hq := ite_f hq c6
      refine J_aload_n (pc := 18) X (j := 0) (i := 0) rfl rfl dX12_twice_18 ?_
      refine J_getF (pc := 19) X (b := 113) ly1 fl_12_43 rfl dX12_twice_19 ?_
      refine J_aload_n (pc := 22) X (j := 0) (i := 0) rfl rfl dX12_twice_22 ?_
      refine J_getF (pc := 23) X (b := 6) ly1 fl_12_28 rfl dX12_twice_23 ?_
      refine J_getF (pc := 26) X (b := 7) ly6 fl_12_95 rfl dX12_twice_26 ?_
      refine J_aload_n (pc := 29) X (j := 0) (i := 0) rfl rfl dX12_twice_29 ?_
      refine J_getF (pc := 30) X (b := 113) ly1 fl_12_43 rfl dX12_twice_30 ?_
      refine J_aload_n (pc := 33) X (j := 0) (i := 0) rfl rfl dX12_twice_33 ?_
      refine J_getF (pc := 34) X (b := 6) ly1 fl_12_28 rfl dX12_twice_34 ?_
      refine J_iload_n (pc := 37) X (j := 1) (i := 1) rfl rfl dX12_twice_37 ?_
      obtain ⟨r8, h7, hc, hq⟩ := bnd_e hq
      refine J_callV (pc := 38) (as := [.inr (.inr 6), .inl x1]) (st := [.inr (.inr 7), .inr (.inr 113)]) (st2 := [.inr (.inr r8), .inr (.inr 7), .inr (.inr 113)]) (r1 := (some (.inr (.inr r8)), h7)) (h2 := h7) (ky := 2) X dX12_twice_38 ca_X3_strike ci_X3_strike cs_X3_strike ml_12_179 (by decide) ly113 rfl rfl (m_X3_strike _ _ _ _ ly6 hc) rfl rfl (Nat.le_of_ble_eq_true rfl) rfl rfl ?_
      obtain ⟨g9, hq⟩ := gd hq
      refine J_iload_n (pc := 41) X (j := 2) (i := 2) rfl rfl dX12_twice_41 ?_
      obtain ⟨v11, h10, hc, hq⟩ := bnd_e hq
      refine J_callV (pc := 42) (as := [.inr (.inr 7), .inr (.inr r8), .inl x2]) (st := []) (st2 := [.inl v11]) (r1 := (some (.inl v11), h10)) (h2 := h10) (ky := 3) X dX12_twice_42 ca_X3_meansBy ci_X3_meansBy cs_X3_meansBy ml_12_186 (by decide) ly113 rfl rfl (m_X3_meansBy _ _ _ _ _ ly7 (isO_lay g9) hc) rfl rfl (Nat.le_of_ble_eq_true rfl) rfl rfl ?_
      obtain rfl := Option.some.inj hq
      exact J_iret (pc := 45) X dX12_twice_45
    · have hq := ite_t hq c6
      refine J_iconst (pc := 16) X (v := (-1)) (by decide) dX12_twice_16 ?_
      obtain rfl := Option.some.inj hq
      exact J_iret (pc := 17) X dX12_twice_17
theorem m_X12_twice (x1 : Int32) (x2 : Int32) (h : Hp) (q : (Int32 × Hp)) (hq : f_X12_twice x1 x2 h = some q) : ∀ l w, CT l w yX12_twice cX12_twice 3 (some .int) 4 [.inr (.inr 1), .inl x1, .inl x2] h (some (.inl q.1), q.2) :=
  CT_of (L0 := [(0, .inr (.inr 1)), (1, .inl x1), (2, .inl x2)]) (by decide) rfl (Nat.le_of_ble_eq_true rfl) (fun κ X => tf_X12_twice X x1 x2 h q  hq)
theorem tF_X12_standIn_38 {κ : Kx} (X : OK κ cX12_standIn 4 (some .int) "StruckWords" 5) (x1 : Int32) (k102 : Int32 → Hp → Option (Int32 × Hp)) (self : Int32 → Int32 → Hp → Option (Int32 × Hp)) (x2 : Int32) (x3 : Int32) (h : Hp) (q : (Int32 × Hp)) (hk102 : ∀ (x2 : Int32) (h : Hp) (q : (Int32 × Hp)), k102 x2 h = some q → J κ 102 [(2, .inl x2)] [] h (some (.inl q.1), q.2)) (hself : ∀ (x2 : Int32) (x3 : Int32) (h : Hp) (q : (Int32 × Hp)), self x2 x3 h = some q → J κ 38 [(0, .inr (.inr 1)), (1, .inl x1), (2, .inl x2), (3, .inl x3)] [] h (some (.inl q.1), q.2)) (hq : F_X12_standIn_38 x1 k102 self x2 x3 h = some q) : J κ 38 [(0, .inr (.inr 1)), (1, .inl x1), (2, .inl x2), (3, .inl x3)] [] h (some (.inl q.1), q.2) := by
  delta F_X12_standIn_38 at hq
  refine J_iload_n (pc := 38) X (j := 3) (i := 3) rfl rfl dX12_standIn_38 ?_
  refine J_aload_n (pc := 39) X (j := 0) (i := 0) rfl rfl dX12_standIn_39 ?_
  refine J_getF (pc := 40) X (b := 6) ly1 fl_12_28 rfl dX12_standIn_40 ?_
  refine J_getF (pc := 43) X (b := 7) ly6 fl_12_95 rfl dX12_standIn_43 ?_
  refine J_getI (pc := 46) X ly7 fl_12_159 dX12_standIn_46 ?_
  refine J_icmp_ge (pc := 49) (tgt := 102) X dX12_standIn_49 rfl (fun c4 => ?_) (fun c4 => ?_)
  · have hq := ite_t hq c4
    refine J_sub [2] rfl ?_
    exact hk102 _ _ _ hq
  · have hq := ite_f hq c4
    refine J_aload_n (pc := 52) X (j := 0) (i := 0) rfl rfl dX12_standIn_52 ?_
    refine J_getF (pc := 53) X (b := 153) ly1 fl_12_71 rfl dX12_standIn_53 ?_
    refine J_getF (pc := 56) X (b := 154) ly153 fl_12_226 rfl dX12_standIn_56 ?_
    refine J_iload_n (pc := 59) X (j := 1) (i := 1) rfl rfl dX12_standIn_59 ?_
    refine J_iload_n (pc := 60) X (j := 3) (i := 3) rfl rfl dX12_standIn_60 ?_
    obtain ⟨g5, hq⟩ := gd hq
    refine J_iastore (pc := 61) X ly154 g5 dX12_standIn_61 ?_
    refine J_ltH hq (fun h6 hq => ?_)
    refine J_aload_n (pc := 62) X (j := 0) (i := 0) rfl rfl dX12_standIn_62 ?_
    refine J_getF (pc := 63) X (b := 113) ly1 fl_12_43 rfl dX12_standIn_63 ?_
    refine J_aload_n (pc := 66) X (j := 0) (i := 0) rfl rfl dX12_standIn_66 ?_
    refine J_getF (pc := 67) X (b := 6) ly1 fl_12_28 rfl dX12_standIn_67 ?_
    refine J_getF (pc := 70) X (b := 7) ly6 fl_12_95 rfl dX12_standIn_70 ?_
    refine J_aload_n (pc := 73) X (j := 0) (i := 0) rfl rfl dX12_standIn_73 ?_
    refine J_getF (pc := 74) X (b := 6) ly1 fl_12_28 rfl dX12_standIn_74 ?_
    refine J_getF (pc := 77) X (b := 18) ly6 fl_12_149 rfl dX12_standIn_77 ?_
    refine J_aload_n (pc := 80) X (j := 0) (i := 0) rfl rfl dX12_standIn_80 ?_
    refine J_getF (pc := 81) X (b := 153) ly1 fl_12_71 rfl dX12_standIn_81 ?_
    obtain ⟨v8, h7, hc, hq⟩ := bnd_e hq
    refine J_callV (pc := 84) (as := [.inr (.inr 7), .inr (.inr 18), .inr (.inr 153)]) (st := []) (st2 := [.inl v8]) (r1 := (some (.inl v8), h7)) (h2 := h7) (ky := 4) X dX12_standIn_84 ca_X3_meanTheSame ci_X3_meanTheSame cs_X3_meanTheSame ml_12_229 (by decide) ly113 rfl rfl (m_X3_meanTheSame _ _ _ _ _ ly7 ly18 ly153 hc) rfl rfl (Nat.le_of_ble_eq_true rfl) rfl rfl ?_
    refine J_if_eq (pc := 87) (tgt := 96) X dX12_standIn_87 rfl (fun c9 => ?_) (fun c9 => ?_)
    · have hq := ite_t hq c9
      refine J_iinc (pc := 96) X (j := 3) (v := 1) (L' := [(3, .inl (x3 + 1)), (0, .inr (.inr 1)), (1, .inl x1), (2, .inl x2)]) rfl (by decide) (by decide) rfl dX12_standIn_96 ?_
      refine J_goto (pc := 99) X (tgt := 38) dX12_standIn_99 rfl ?_
      refine J_sub [1, 2, 3, 0] rfl ?_
      exact hself _ _ _ _ hq
    · have hq := ite_f hq c9
      refine J_iload_n (pc := 90) X (j := 2) (i := 2) rfl rfl dX12_standIn_90 ?_
      refine J_iconst (pc := 91) X (v := 1) (by decide) dX12_standIn_91 ?_
      refine J_iload_n (pc := 92) X (j := 3) (i := 3) rfl rfl dX12_standIn_92 ?_
      refine J_ishl (pc := 93) X dX12_standIn_93 ?_
      refine J_ior (pc := 94) X dX12_standIn_94 ?_
      refine J_ltI hq (fun v10 hq => ?_)
      refine J_istore_n (pc := 95) X (L' := [(2, .inl v10), (0, .inr (.inr 1)), (1, .inl x1), (3, .inl x3)]) (i := 2) rfl (by decide) rfl dX12_standIn_95 ?_
      refine J_iinc (pc := 96) X (j := 3) (v := 1) (L' := [(3, .inl (x3 + 1)), (2, .inl v10), (0, .inr (.inr 1)), (1, .inl x1)]) rfl (by decide) (by decide) rfl dX12_standIn_96 ?_
      refine J_goto (pc := 99) X (tgt := 38) dX12_standIn_99 rfl ?_
      refine J_sub [2, 3, 1, 0] rfl ?_
      exact hself _ _ _ _ hq
theorem tL_X12_standIn_38 {κ : Kx} (X : OK κ cX12_standIn 4 (some .int) "StruckWords" 5) (x1 : Int32) (k102 : Int32 → Hp → Option (Int32 × Hp)) (N : Nat) (x2 : Int32) (x3 : Int32) (h : Hp) (q : (Int32 × Hp)) (hk102 : ∀ (x2 : Int32) (h : Hp) (q : (Int32 × Hp)), k102 x2 h = some q → J κ 102 [(2, .inl x2)] [] h (some (.inl q.1), q.2)) (hq : itr3 (F_X12_standIn_38 x1 k102) N x2 x3 h = some q) : J κ 38 [(0, .inr (.inr 1)), (1, .inl x1), (2, .inl x2), (3, .inl x3)] [] h (some (.inl q.1), q.2) :=
  itr3_ind (fun self hs x2 x3 h q hq => tF_X12_standIn_38 X x1 k102 self x2 x3 h q hk102 hs hq) N x2 x3 h q hq
theorem tf_X12_standIn {κ : Kx} (X : OK κ cX12_standIn 4 (some .int) "StruckWords" 5) (x1 : Int32) (h : Hp) (q : (Int32 × Hp)) (hq : f_X12_standIn x1 h = some q) : J κ 0 [(0, .inr (.inr 1)), (1, .inl x1)] [] h (some (.inl q.1), q.2) := by
  delta f_X12_standIn at hq
  refine J_iload_n (pc := 0) X (j := 1) (i := 1) rfl rfl dX12_standIn_0 ?_
  refine J_if_lt (pc := 1) (tgt := 18) X dX12_standIn_1 rfl (fun c1 => ?_) (fun c1 => ?_)
  · have hq := ite_t hq c1
    refine J_iconst (pc := 18) X (v := (-1)) (by decide) dX12_standIn_18 ?_
    obtain rfl := Option.some.inj hq
    exact J_iret (pc := 19) X dX12_standIn_19
  · have hq := ite_f hq c1
    refine J_iload_n (pc := 4) X (j := 1) (i := 1) rfl rfl dX12_standIn_4 ?_
    refine J_aload_n (pc := 5) X (j := 0) (i := 0) rfl rfl dX12_standIn_5 ?_
    refine J_getF (pc := 6) X (b := 6) ly1 fl_12_28 rfl dX12_standIn_6 ?_
    refine J_getF (pc := 9) X (b := 18) ly6 fl_12_149 rfl dX12_standIn_9 ?_
    refine J_getI (pc := 12) X ly18 fl_12_74 dX12_standIn_12 ?_
    refine J_icmp_lt (pc := 15) (tgt := 20) X dX12_standIn_15 rfl (fun c2 => ?_) (fun c2 => ?_)
    · have hq := ite_t hq c2
      refine J_aload_n (pc := 20) X (j := 0) (i := 0) rfl rfl dX12_standIn_20 ?_
      refine J_getF (pc := 21) X (b := 153) ly1 fl_12_71 rfl dX12_standIn_21 ?_
      refine J_aload_n (pc := 24) X (j := 0) (i := 0) rfl rfl dX12_standIn_24 ?_
      refine J_getF (pc := 25) X (b := 6) ly1 fl_12_28 rfl dX12_standIn_25 ?_
      refine J_getF (pc := 28) X (b := 18) ly6 fl_12_149 rfl dX12_standIn_28 ?_
      obtain ⟨h3, hc, hq⟩ := bnv_e hq
      refine J_callV (pc := 31) (as := [.inr (.inr 18)]) (st := []) (st2 := []) (r1 := (none, h3)) (h2 := h3) (ky := 3) X dX12_standIn_31 ca_X7_copyFrom ci_X7_copyFrom cs_X7_copyFrom ml_12_152 (by decide) ly153 rfl rfl (m_X7_copyFrom _ _ _ _ ly153 ly18 hc) rfl rfl (Nat.le_of_ble_eq_true rfl) rfl rfl ?_
      refine J_iconst (pc := 34) X (v := 0) (by decide) dX12_standIn_34 ?_
      refine J_istore_n (pc := 35) X (L' := [(2, .inl 0), (0, .inr (.inr 1)), (1, .inl x1)]) (i := 2) rfl (by decide) rfl dX12_standIn_35 ?_
      refine J_iconst (pc := 36) X (v := 0) (by decide) dX12_standIn_36 ?_
      refine J_istore_n (pc := 37) X (L' := [(3, .inl 0), (2, .inl 0), (0, .inr (.inr 1)), (1, .inl x1)]) (i := 3) rfl (by decide) rfl dX12_standIn_37 ?_
      refine J_sub [2, 3, 1, 0] rfl ?_
      refine tL_X12_standIn_38 X _ _ N0 _ _ _ _ ?_ hq
      · intro v12 h11 q hq
        refine J_iload_n (pc := 102) X (j := 0) (i := 2) rfl rfl dX12_standIn_102 ?_
        obtain rfl := Option.some.inj hq
        exact J_iret (pc := 103) X dX12_standIn_103
    · have hq := ite_f hq c2
      refine J_iconst (pc := 18) X (v := (-1)) (by decide) dX12_standIn_18 ?_
      obtain rfl := Option.some.inj hq
      exact J_iret (pc := 19) X dX12_standIn_19
theorem m_X12_standIn (x1 : Int32) (h : Hp) (q : (Int32 × Hp)) (hq : f_X12_standIn x1 h = some q) : ∀ l w, CT l w yX12_standIn cX12_standIn 4 (some .int) 5 [.inr (.inr 1), .inl x1] h (some (.inl q.1), q.2) :=
  CT_of (L0 := [(0, .inr (.inr 1)), (1, .inl x1)]) (by decide) rfl (Nat.le_of_ble_eq_true rfl) (fun κ X => tf_X12_standIn X x1 h q  hq)
theorem tF_X12_safe_25 {κ : Kx} (X : OK κ cX12_safe 3 (some .int) "StruckWords" 4) (x1 : Int32) (k68 : Hp → Option (Int32 × Hp)) (k76 : Hp → Option (Int32 × Hp)) (self : Int32 → Hp → Option (Int32 × Hp)) (x2 : Int32) (h : Hp) (q : (Int32 × Hp)) (hk68 : ∀ (h : Hp) (q : (Int32 × Hp)), k68 h = some q → J κ 68 [] [] h (some (.inl q.1), q.2)) (hk76 : ∀ (h : Hp) (q : (Int32 × Hp)), k76 h = some q → J κ 76 [(1, .inl x1)] [] h (some (.inl q.1), q.2)) (hself : ∀ (x2 : Int32) (h : Hp) (q : (Int32 × Hp)), self x2 h = some q → J κ 25 [(0, .inr (.inr 1)), (1, .inl x1), (2, .inl x2)] [] h (some (.inl q.1), q.2)) (hq : F_X12_safe_25 x1 k68 k76 self x2 h = some q) : J κ 25 [(0, .inr (.inr 1)), (1, .inl x1), (2, .inl x2)] [] h (some (.inl q.1), q.2) := by
  delta F_X12_safe_25 at hq
  refine J_iload_n (pc := 25) X (j := 2) (i := 2) rfl rfl dX12_safe_25 ?_
  refine J_aload_n (pc := 26) X (j := 0) (i := 0) rfl rfl dX12_safe_26 ?_
  refine J_getF (pc := 27) X (b := 6) ly1 fl_12_28 rfl dX12_safe_27 ?_
  refine J_getF (pc := 30) X (b := 7) ly6 fl_12_95 rfl dX12_safe_30 ?_
  refine J_getF (pc := 33) X (b := 9) ly7 fl_12_210 rfl dX12_safe_33 ?_
  refine J_getI (pc := 36) X ly9 fl_12_214 dX12_safe_36 ?_
  refine J_icmp_gt (pc := 39) (tgt := 76) X dX12_safe_39 rfl (fun c3 => ?_) (fun c3 => ?_)
  · have hq := ite_t hq c3
    refine J_sub [1] rfl ?_
    exact hk76 _ _ hq
  · have hq := ite_f hq c3
    refine J_aload_n (pc := 42) X (j := 0) (i := 0) rfl rfl dX12_safe_42 ?_
    refine J_getF (pc := 43) X (b := 113) ly1 fl_12_43 rfl dX12_safe_43 ?_
    refine J_aload_n (pc := 46) X (j := 0) (i := 0) rfl rfl dX12_safe_46 ?_
    refine J_getF (pc := 47) X (b := 6) ly1 fl_12_28 rfl dX12_safe_47 ?_
    refine J_getF (pc := 50) X (b := 7) ly6 fl_12_95 rfl dX12_safe_50 ?_
    refine J_aload_n (pc := 53) X (j := 0) (i := 0) rfl rfl dX12_safe_53 ?_
    refine J_getF (pc := 54) X (b := 6) ly1 fl_12_28 rfl dX12_safe_54 ?_
    refine J_getF (pc := 57) X (b := 18) ly6 fl_12_149 rfl dX12_safe_57 ?_
    refine J_iload_n (pc := 60) X (j := 2) (i := 2) rfl rfl dX12_safe_60 ?_
    obtain ⟨v5, h4, hc, hq⟩ := bnd_e hq
    refine J_callV (pc := 61) (as := [.inr (.inr 7), .inr (.inr 18), .inl x2]) (st := []) (st2 := [.inl v5]) (r1 := (some (.inl v5), h4)) (h2 := h4) (ky := 3) X dX12_safe_61 ca_X3_meansBy ci_X3_meansBy cs_X3_meansBy ml_12_186 (by decide) ly113 rfl rfl (m_X3_meansBy _ _ _ _ _ ly7 ly18 hc) rfl rfl (Nat.le_of_ble_eq_true rfl) rfl rfl ?_
    refine J_iload_n (pc := 64) X (j := 1) (i := 1) rfl rfl dX12_safe_64 ?_
    refine J_icmp_eq (pc := 65) (tgt := 70) X dX12_safe_65 rfl (fun c6 => ?_) (fun c6 => ?_)
    · have hq := ite_t hq c6
      refine J_iinc (pc := 70) X (j := 2) (v := 1) (L' := [(2, .inl (x2 + 1)), (0, .inr (.inr 1)), (1, .inl x1)]) rfl (by decide) (by decide) rfl dX12_safe_70 ?_
      refine J_goto (pc := 73) X (tgt := 25) dX12_safe_73 rfl ?_
      refine J_sub [1, 2, 0] rfl ?_
      exact hself _ _ _ hq
    · have hq := ite_f hq c6
      refine J_sub [] rfl ?_
      exact hk68 _ _ hq
theorem tL_X12_safe_25 {κ : Kx} (X : OK κ cX12_safe 3 (some .int) "StruckWords" 4) (x1 : Int32) (k68 : Hp → Option (Int32 × Hp)) (k76 : Hp → Option (Int32 × Hp)) (N : Nat) (x2 : Int32) (h : Hp) (q : (Int32 × Hp)) (hk68 : ∀ (h : Hp) (q : (Int32 × Hp)), k68 h = some q → J κ 68 [] [] h (some (.inl q.1), q.2)) (hk76 : ∀ (h : Hp) (q : (Int32 × Hp)), k76 h = some q → J κ 76 [(1, .inl x1)] [] h (some (.inl q.1), q.2)) (hq : itr2 (F_X12_safe_25 x1 k68 k76) N x2 h = some q) : J κ 25 [(0, .inr (.inr 1)), (1, .inl x1), (2, .inl x2)] [] h (some (.inl q.1), q.2) :=
  itr2_ind (fun self hs x2 h q hq => tF_X12_safe_25 X x1 k68 k76 self x2 h q hk68 hk76 hs hq) N x2 h q hq
theorem tf_X12_safe {κ : Kx} (X : OK κ cX12_safe 3 (some .int) "StruckWords" 4) (h : Hp) (q : (Int32 × Hp)) (hq : f_X12_safe h = some q) : J κ 0 [(0, .inr (.inr 1))] [] h (some (.inl q.1), q.2) := by
  delta f_X12_safe at hq
  refine J_aload_n (pc := 0) X (j := 0) (i := 0) rfl rfl dX12_safe_0 ?_
  refine J_getF (pc := 1) X (b := 113) ly1 fl_12_43 rfl dX12_safe_1 ?_
  refine J_aload_n (pc := 4) X (j := 0) (i := 0) rfl rfl dX12_safe_4 ?_
  refine J_getF (pc := 5) X (b := 6) ly1 fl_12_28 rfl dX12_safe_5 ?_
  refine J_getF (pc := 8) X (b := 7) ly6 fl_12_95 rfl dX12_safe_8 ?_
  refine J_aload_n (pc := 11) X (j := 0) (i := 0) rfl rfl dX12_safe_11 ?_
  refine J_getF (pc := 12) X (b := 6) ly1 fl_12_28 rfl dX12_safe_12 ?_
  refine J_getF (pc := 15) X (b := 18) ly6 fl_12_149 rfl dX12_safe_15 ?_
  refine J_iconst (pc := 18) X (v := 1) (by decide) dX12_safe_18 ?_
  obtain ⟨v2, h1, hc, hq⟩ := bnd_e hq
  refine J_callV (pc := 19) (as := [.inr (.inr 7), .inr (.inr 18), .inl 1]) (st := []) (st2 := [.inl v2]) (r1 := (some (.inl v2), h1)) (h2 := h1) (ky := 3) X dX12_safe_19 ca_X3_meansBy ci_X3_meansBy cs_X3_meansBy ml_12_186 (by decide) ly113 rfl rfl (m_X3_meansBy _ _ _ _ _ ly7 ly18 hc) rfl rfl (Nat.le_of_ble_eq_true rfl) rfl rfl ?_
  refine J_istore_n (pc := 22) X (L' := [(1, .inl v2), (0, .inr (.inr 1))]) (i := 1) rfl (by decide) rfl dX12_safe_22 ?_
  refine J_iconst (pc := 23) X (v := 2) (by decide) dX12_safe_23 ?_
  refine J_istore_n (pc := 24) X (L' := [(2, .inl 2), (1, .inl v2), (0, .inr (.inr 1))]) (i := 2) rfl (by decide) rfl dX12_safe_24 ?_
  refine J_sub [2, 1, 0] rfl ?_
  refine tL_X12_safe_25 X _ _ _ N0 _ _ _ ?_ ?_ hq
  · intro h7 q hq
    refine J_iconst (pc := 68) X (v := (-1)) (by decide) dX12_safe_68 ?_
    obtain rfl := Option.some.inj hq
    exact J_iret (pc := 69) X dX12_safe_69
  · intro h8 q hq
    refine J_iload_n (pc := 76) X (j := 0) (i := 1) rfl rfl dX12_safe_76 ?_
    obtain ⟨v10, h9, hc, hq⟩ := bnd_e hq
    refine J_callS (pc := 77) (as := [.inl v2]) (st := []) (st2 := [.inl v10]) (r1 := (some (.inl v10), h9)) (h2 := h9) (ky := 1) X dX12_safe_77 ca_J6_bitCount_0f7a4 cz_J6_bitCount_0f7a4 ml_12_125 (by decide) (m_J6_bitCount_0f7a4 _ _ _ hc) rfl rfl (Nat.le_of_ble_eq_true rfl) rfl rfl ?_
    refine J_iconst (pc := 80) X (v := 1) (by decide) dX12_safe_80 ?_
    refine J_icmp_ne (pc := 81) (tgt := 93) X dX12_safe_81 rfl (fun c11 => ?_) (fun c11 => ?_)
    · have hq := ite_f hq c11
      refine J_iconst (pc := 93) X (v := (-1)) (by decide) dX12_safe_93 ?_
      obtain rfl := Option.some.inj hq
      exact J_iret (pc := 94) X dX12_safe_94
    · have hq := ite_t hq c11
      refine J_iload_n (pc := 84) X (j := 0) (i := 1) rfl rfl dX12_safe_84 ?_
      refine J_iconst (pc := 85) X (v := 1) (by decide) dX12_safe_85 ?_
      refine J_isub (pc := 86) X dX12_safe_86 ?_
      obtain ⟨v13, h12, hc, hq⟩ := bnd_e hq
      refine J_callS (pc := 87) (as := [.inl (v2 - 1)]) (st := []) (st2 := [.inl v13]) (r1 := (some (.inl v13), h12)) (h2 := h12) (ky := 1) X dX12_safe_87 ca_J6_bitCount_0f7a4 cz_J6_bitCount_0f7a4 ml_12_125 (by decide) (m_J6_bitCount_0f7a4 _ _ _ hc) rfl rfl (Nat.le_of_ble_eq_true rfl) rfl rfl ?_
      refine J_goto (pc := 90) X (tgt := 94) dX12_safe_90 rfl ?_
      obtain rfl := Option.some.inj hq
      exact J_iret (pc := 94) X dX12_safe_94
theorem m_X12_safe (h : Hp) (q : (Int32 × Hp)) (hq : f_X12_safe  h = some q) : ∀ l w, CT l w yX12_safe cX12_safe 3 (some .int) 4 [.inr (.inr 1)] h (some (.inl q.1), q.2) :=
  CT_of (L0 := [(0, .inr (.inr 1))]) (by decide) rfl (Nat.le_of_ble_eq_true rfl) (fun κ X => tf_X12_safe X  h q  hq)
theorem tF_X12_scans_17 {κ : Kx} (X : OK κ cX12_scans 4 (some .int) "StruckWords" 3) (x1 : Int32) (k72 : Int32 → Hp → Option (Int32 × Hp)) (self : Int32 → Int32 → Hp → Option (Int32 × Hp)) (x2 : Int32) (x3 : Int32) (h : Hp) (q : (Int32 × Hp)) (hk72 : ∀ (x2 : Int32) (h : Hp) (q : (Int32 × Hp)), k72 x2 h = some q → J κ 72 [(2, .inl x2)] [] h (some (.inl q.1), q.2)) (hself : ∀ (x2 : Int32) (x3 : Int32) (h : Hp) (q : (Int32 × Hp)), self x2 x3 h = some q → J κ 17 [(0, .inr (.inr 1)), (1, .inl x1), (2, .inl x2), (3, .inl x3)] [] h (some (.inl q.1), q.2)) (hq : F_X12_scans_17 x1 k72 self x2 x3 h = some q) : J κ 17 [(0, .inr (.inr 1)), (1, .inl x1), (2, .inl x2), (3, .inl x3)] [] h (some (.inl q.1), q.2) := by
  delta F_X12_scans_17 at hq
  refine J_iload_n (pc := 17) X (j := 3) (i := 3) rfl rfl dX12_scans_17 ?_
  refine J_aload_n (pc := 18) X (j := 0) (i := 0) rfl rfl dX12_scans_18 ?_
  refine J_getF (pc := 19) X (b := 6) ly1 fl_12_28 rfl dX12_scans_19 ?_
  refine J_getF (pc := 22) X (b := 7) ly6 fl_12_95 rfl dX12_scans_22 ?_
  refine J_getF (pc := 25) X (b := 9) ly7 fl_12_210 rfl dX12_scans_25 ?_
  refine J_getI (pc := 28) X ly9 fl_12_214 dX12_scans_28 ?_
  refine J_icmp_gt (pc := 31) (tgt := 72) X dX12_scans_31 rfl (fun c3 => ?_) (fun c3 => ?_)
  · have hq := ite_t hq c3
    refine J_sub [2] rfl ?_
    exact hk72 _ _ _ hq
  · have hq := ite_f hq c3
    refine J_aload_n (pc := 34) X (j := 0) (i := 0) rfl rfl dX12_scans_34 ?_
    refine J_getF (pc := 35) X (b := 113) ly1 fl_12_43 rfl dX12_scans_35 ?_
    refine J_aload_n (pc := 38) X (j := 0) (i := 0) rfl rfl dX12_scans_38 ?_
    refine J_getF (pc := 39) X (b := 6) ly1 fl_12_28 rfl dX12_scans_39 ?_
    refine J_getF (pc := 42) X (b := 7) ly6 fl_12_95 rfl dX12_scans_42 ?_
    refine J_aload_n (pc := 45) X (j := 0) (i := 0) rfl rfl dX12_scans_45 ?_
    refine J_getF (pc := 46) X (b := 6) ly1 fl_12_28 rfl dX12_scans_46 ?_
    refine J_getF (pc := 49) X (b := 18) ly6 fl_12_149 rfl dX12_scans_49 ?_
    refine J_iload_n (pc := 52) X (j := 3) (i := 3) rfl rfl dX12_scans_52 ?_
    obtain ⟨v5, h4, hc, hq⟩ := bnd_e hq
    refine J_callV (pc := 53) (as := [.inr (.inr 7), .inr (.inr 18), .inl x3]) (st := []) (st2 := [.inl v5]) (r1 := (some (.inl v5), h4)) (h2 := h4) (ky := 2) X dX12_scans_53 ca_X3_beatsBy ci_X3_beatsBy cs_X3_beatsBy ml_12_241 (by decide) ly113 rfl rfl (m_X3_beatsBy _ _ _ _ _ ly7 ly18 hc) rfl rfl (Nat.le_of_ble_eq_true rfl) rfl rfl ?_
    refine J_iload_n (pc := 56) X (j := 1) (i := 1) rfl rfl dX12_scans_56 ?_
    refine J_icmp_ne (pc := 57) (tgt := 66) X dX12_scans_57 rfl (fun c6 => ?_) (fun c6 => ?_)
    · have hq := ite_f hq c6
      refine J_iinc (pc := 66) X (j := 3) (v := 1) (L' := [(3, .inl (x3 + 1)), (0, .inr (.inr 1)), (1, .inl x1), (2, .inl x2)]) rfl (by decide) (by decide) rfl dX12_scans_66 ?_
      refine J_goto (pc := 69) X (tgt := 17) dX12_scans_69 rfl ?_
      refine J_sub [1, 2, 3, 0] rfl ?_
      exact hself _ _ _ _ hq
    · have hq := ite_t hq c6
      refine J_iload_n (pc := 60) X (j := 2) (i := 2) rfl rfl dX12_scans_60 ?_
      refine J_iconst (pc := 61) X (v := 1) (by decide) dX12_scans_61 ?_
      refine J_iload_n (pc := 62) X (j := 3) (i := 3) rfl rfl dX12_scans_62 ?_
      refine J_ishl (pc := 63) X dX12_scans_63 ?_
      refine J_ior (pc := 64) X dX12_scans_64 ?_
      refine J_ltI hq (fun v7 hq => ?_)
      refine J_istore_n (pc := 65) X (L' := [(2, .inl v7), (0, .inr (.inr 1)), (1, .inl x1), (3, .inl x3)]) (i := 2) rfl (by decide) rfl dX12_scans_65 ?_
      refine J_iinc (pc := 66) X (j := 3) (v := 1) (L' := [(3, .inl (x3 + 1)), (2, .inl v7), (0, .inr (.inr 1)), (1, .inl x1)]) rfl (by decide) (by decide) rfl dX12_scans_66 ?_
      refine J_goto (pc := 69) X (tgt := 17) dX12_scans_69 rfl ?_
      refine J_sub [2, 3, 1, 0] rfl ?_
      exact hself _ _ _ _ hq
theorem tL_X12_scans_17 {κ : Kx} (X : OK κ cX12_scans 4 (some .int) "StruckWords" 3) (x1 : Int32) (k72 : Int32 → Hp → Option (Int32 × Hp)) (N : Nat) (x2 : Int32) (x3 : Int32) (h : Hp) (q : (Int32 × Hp)) (hk72 : ∀ (x2 : Int32) (h : Hp) (q : (Int32 × Hp)), k72 x2 h = some q → J κ 72 [(2, .inl x2)] [] h (some (.inl q.1), q.2)) (hq : itr3 (F_X12_scans_17 x1 k72) N x2 x3 h = some q) : J κ 17 [(0, .inr (.inr 1)), (1, .inl x1), (2, .inl x2), (3, .inl x3)] [] h (some (.inl q.1), q.2) :=
  itr3_ind (fun self hs x2 x3 h q hq => tF_X12_scans_17 X x1 k72 self x2 x3 h q hk72 hs hq) N x2 x3 h q hq
theorem tf_X12_scans {κ : Kx} (X : OK κ cX12_scans 4 (some .int) "StruckWords" 3) (x1 : Int32) (h : Hp) (q : (Int32 × Hp)) (hq : f_X12_scans x1 h = some q) : J κ 0 [(0, .inr (.inr 1)), (1, .inl x1)] [] h (some (.inl q.1), q.2) := by
  delta f_X12_scans at hq
  refine J_iload_n (pc := 0) X (j := 1) (i := 1) rfl rfl dX12_scans_0 ?_
  refine J_if_lt (pc := 1) (tgt := 11) X dX12_scans_1 rfl (fun c1 => ?_) (fun c1 => ?_)
  · have hq := ite_t hq c1
    refine J_iconst (pc := 11) X (v := (-1)) (by decide) dX12_scans_11 ?_
    obtain rfl := Option.some.inj hq
    exact J_iret (pc := 12) X dX12_scans_12
  · have hq := ite_f hq c1
    refine J_iload_n (pc := 4) X (j := 1) (i := 1) rfl rfl dX12_scans_4 ?_
    refine J_sipush (pc := 5) X (v := 216) (by decide) dX12_scans_5 ?_
    refine J_icmp_le (pc := 8) (tgt := 13) X dX12_scans_8 rfl (fun c2 => ?_) (fun c2 => ?_)
    · have hq := ite_t hq c2
      refine J_iconst (pc := 13) X (v := 0) (by decide) dX12_scans_13 ?_
      refine J_istore_n (pc := 14) X (L' := [(2, .inl 0), (0, .inr (.inr 1)), (1, .inl x1)]) (i := 2) rfl (by decide) rfl dX12_scans_14 ?_
      refine J_iconst (pc := 15) X (v := 0) (by decide) dX12_scans_15 ?_
      refine J_istore_n (pc := 16) X (L' := [(3, .inl 0), (2, .inl 0), (0, .inr (.inr 1)), (1, .inl x1)]) (i := 3) rfl (by decide) rfl dX12_scans_16 ?_
      refine J_sub [2, 3, 1, 0] rfl ?_
      refine tL_X12_scans_17 X _ _ N0 _ _ _ _ ?_ hq
      · intro v9 h8 q hq
        refine J_iload_n (pc := 72) X (j := 0) (i := 2) rfl rfl dX12_scans_72 ?_
        obtain rfl := Option.some.inj hq
        exact J_iret (pc := 73) X dX12_scans_73
    · have hq := ite_f hq c2
      refine J_iconst (pc := 11) X (v := (-1)) (by decide) dX12_scans_11 ?_
      obtain rfl := Option.some.inj hq
      exact J_iret (pc := 12) X dX12_scans_12
theorem m_X12_scans (x1 : Int32) (h : Hp) (q : (Int32 × Hp)) (hq : f_X12_scans x1 h = some q) : ∀ l w, CT l w yX12_scans cX12_scans 4 (some .int) 3 [.inr (.inr 1), .inl x1] h (some (.inl q.1), q.2) :=
  CT_of (L0 := [(0, .inr (.inr 1)), (1, .inl x1)]) (by decide) rfl (Nat.le_of_ble_eq_true rfl) (fun κ X => tf_X12_scans X x1 h q  hq)
theorem tf_X12_letters {κ : Kx} (X : OK κ cX12_letters 2 (some .long) "StruckWords" 4) (x1 : Int32) (h : Hp) (q : (Int64 × Hp)) (hq : f_X12_letters x1 h = some q) : J κ 0 [(0, .inr (.inr 1)), (1, .inl x1)] [] h (some (.inr (.inl q.1)), q.2) := by
  delta f_X12_letters at hq
  refine J_aload_n (pc := 0) X (j := 0) (i := 0) rfl rfl dX12_letters_0 ?_
  refine J_iload_n (pc := 1) X (j := 1) (i := 1) rfl rfl dX12_letters_1 ?_
  obtain ⟨v2, h1, hc, hq⟩ := bnd_e hq
  refine J_callV (pc := 2) (as := [.inl x1]) (st := []) (st2 := [.inl v2]) (r1 := (some (.inl v2), h1)) (h2 := h1) (ky := 2) X dX12_letters_2 ca_X12_isBeginningOrAll ci_X12_isBeginningOrAll cs_X12_isBeginningOrAll ml_12_176 (by decide) ly1 rfl rfl (m_X12_isBeginningOrAll _ _ _ hc) rfl rfl (Nat.le_of_ble_eq_true rfl) rfl rfl ?_
  refine J_if_eq (pc := 5) (tgt := 33) X dX12_letters_5 rfl (fun c3 => ?_) (fun c3 => ?_)
  · have hq := ite_t hq c3
    refine J_ldc2 (pc := 33) X cl_12_194 dX12_letters_33 ?_
    obtain rfl := Option.some.inj hq
    exact J_lret (pc := 36) X dX12_letters_36
  · have hq := ite_f hq c3
    refine J_aload_n (pc := 8) X (j := 0) (i := 0) rfl rfl dX12_letters_8 ?_
    refine J_getF (pc := 9) X (b := 113) ly1 fl_12_43 rfl dX12_letters_9 ?_
    refine J_aload_n (pc := 12) X (j := 0) (i := 0) rfl rfl dX12_letters_12 ?_
    refine J_getF (pc := 13) X (b := 6) ly1 fl_12_28 rfl dX12_letters_13 ?_
    refine J_getF (pc := 16) X (b := 7) ly6 fl_12_95 rfl dX12_letters_16 ?_
    refine J_aload_n (pc := 19) X (j := 0) (i := 0) rfl rfl dX12_letters_19 ?_
    refine J_getF (pc := 20) X (b := 6) ly1 fl_12_28 rfl dX12_letters_20 ?_
    refine J_getF (pc := 23) X (b := 18) ly6 fl_12_149 rfl dX12_letters_23 ?_
    refine J_iload_n (pc := 26) X (j := 1) (i := 1) rfl rfl dX12_letters_26 ?_
    obtain ⟨v5, h4, hc, hq⟩ := bnd_e hq
    refine J_callV (pc := 27) (as := [.inr (.inr 7), .inr (.inr 18), .inl x1]) (st := []) (st2 := [.inr (.inl v5)]) (r1 := (some (.inr (.inl v5)), h4)) (h2 := h4) (ky := 3) X dX12_letters_27 ca_X3_waysOfLetters ci_X3_waysOfLetters cs_X3_waysOfLetters ml_12_244 (by decide) ly113 rfl rfl (m_X3_waysOfLetters _ _ _ _ _ ly7 ly18 hc) rfl rfl (Nat.le_of_ble_eq_true rfl) rfl rfl ?_
    refine J_goto (pc := 30) X (tgt := 36) dX12_letters_30 rfl ?_
    obtain rfl := Option.some.inj hq
    exact J_lret (pc := 36) X dX12_letters_36
theorem m_X12_letters (x1 : Int32) (h : Hp) (q : (Int64 × Hp)) (hq : f_X12_letters x1 h = some q) : ∀ l w, CT l w yX12_letters cX12_letters 2 (some .long) 4 [.inr (.inr 1), .inl x1] h (some (.inr (.inl q.1)), q.2) :=
  CT_of (L0 := [(0, .inr (.inr 1)), (1, .inl x1)]) (by decide) rfl (Nat.le_of_ble_eq_true rfl) (fun κ X => tf_X12_letters X x1 h q  hq)
theorem tF_X12_goalsFromTape_52 {κ : Kx} (X : OK κ cX12_goalsFromTape 3 (some .boolean) "StruckWords" 2) (x1 : Int32) (k71 : Hp → Option (Int32 × Hp)) (k96 : Hp → Option (Int32 × Hp)) (self : Int32 → Hp → Option (Int32 × Hp)) (x2 : Int32) (h : Hp) (q : (Int32 × Hp)) (hk71 : ∀ (h : Hp) (q : (Int32 × Hp)), k71 h = some q → J κ 71 [] [] h (some (.inl q.1), q.2)) (hk96 : ∀ (h : Hp) (q : (Int32 × Hp)), k96 h = some q → J κ 96 [] [] h (some (.inl q.1), q.2)) (hself : ∀ (x2 : Int32) (h : Hp) (q : (Int32 × Hp)), self x2 h = some q → J κ 52 [(0, .inr (.inr 1)), (1, .inl x1), (2, .inl x2)] [] h (some (.inl q.1), q.2)) (hq : F_X12_goalsFromTape_52 x1 k71 k96 self x2 h = some q) : J κ 52 [(0, .inr (.inr 1)), (1, .inl x1), (2, .inl x2)] [] h (some (.inl q.1), q.2) := by
  delta F_X12_goalsFromTape_52 at hq
  refine J_iload_n (pc := 52) X (j := 2) (i := 2) rfl rfl dX12_goalsFromTape_52 ?_
  refine J_iload_n (pc := 53) X (j := 1) (i := 1) rfl rfl dX12_goalsFromTape_53 ?_
  refine J_icmp_ge (pc := 54) (tgt := 96) X dX12_goalsFromTape_54 rfl (fun c5 => ?_) (fun c5 => ?_)
  · have hq := ite_t hq c5
    refine J_sub [] rfl ?_
    exact hk96 _ _ hq
  · have hq := ite_f hq c5
    refine J_aload_n (pc := 57) X (j := 0) (i := 0) rfl rfl dX12_goalsFromTape_57 ?_
    refine J_getF (pc := 58) X (b := 2) ly1 fl_12_14 rfl dX12_goalsFromTape_58 ?_
    refine J_getF (pc := 61) X (b := 3) ly2 fl_12_226 rfl dX12_goalsFromTape_61 ?_
    refine J_iload_n (pc := 64) X (j := 2) (i := 2) rfl rfl dX12_goalsFromTape_64 ?_
    obtain ⟨g6, hq⟩ := gd hq
    refine J_iaload (pc := 65) X ly3 g6 dX12_goalsFromTape_65 ?_
    refine J_bipush (pc := 66) X (v := 9) (by decide) dX12_goalsFromTape_66 ?_
    refine J_icmp_le (pc := 68) (tgt := 73) X dX12_goalsFromTape_68 rfl (fun c7 => ?_) (fun c7 => ?_)
    · have hq := ite_t hq c7
      refine J_aload_n (pc := 73) X (j := 0) (i := 0) rfl rfl dX12_goalsFromTape_73 ?_
      refine J_getF (pc := 74) X (b := 122) ly1 fl_12_50 rfl dX12_goalsFromTape_74 ?_
      refine J_iload_n (pc := 77) X (j := 2) (i := 2) rfl rfl dX12_goalsFromTape_77 ?_
      refine J_aload_n (pc := 78) X (j := 0) (i := 0) rfl rfl dX12_goalsFromTape_78 ?_
      refine J_getF (pc := 79) X (b := 2) ly1 fl_12_14 rfl dX12_goalsFromTape_79 ?_
      refine J_getF (pc := 82) X (b := 3) ly2 fl_12_226 rfl dX12_goalsFromTape_82 ?_
      refine J_iload_n (pc := 85) X (j := 2) (i := 2) rfl rfl dX12_goalsFromTape_85 ?_
      obtain ⟨g8, hq⟩ := gd hq
      refine J_iaload (pc := 86) X ly3 g8 dX12_goalsFromTape_86 ?_
      obtain ⟨h9, hc, hq⟩ := bnv_e hq
      refine J_callV (pc := 87) (as := [.inl x2, .inl (h.1 3 (x2.toNatClampNeg))]) (st := []) (st2 := []) (r1 := (none, h9)) (h2 := h9) (ky := 1) X dX12_goalsFromTape_87 ca_X2_want ci_X2_want cs_X2_want ml_12_351 (by decide) ly122 rfl rfl (m_X2_want _ _ _ _ hc) rfl rfl (Nat.le_of_ble_eq_true rfl) rfl rfl ?_
      refine J_iinc (pc := 90) X (j := 2) (v := 1) (L' := [(2, .inl (x2 + 1)), (0, .inr (.inr 1)), (1, .inl x1)]) rfl (by decide) (by decide) rfl dX12_goalsFromTape_90 ?_
      refine J_goto (pc := 93) X (tgt := 52) dX12_goalsFromTape_93 rfl ?_
      refine J_sub [1, 2, 0] rfl ?_
      exact hself _ _ _ hq
    · have hq := ite_f hq c7
      refine J_sub [] rfl ?_
      exact hk71 _ _ hq
theorem tL_X12_goalsFromTape_52 {κ : Kx} (X : OK κ cX12_goalsFromTape 3 (some .boolean) "StruckWords" 2) (x1 : Int32) (k71 : Hp → Option (Int32 × Hp)) (k96 : Hp → Option (Int32 × Hp)) (N : Nat) (x2 : Int32) (h : Hp) (q : (Int32 × Hp)) (hk71 : ∀ (h : Hp) (q : (Int32 × Hp)), k71 h = some q → J κ 71 [] [] h (some (.inl q.1), q.2)) (hk96 : ∀ (h : Hp) (q : (Int32 × Hp)), k96 h = some q → J κ 96 [] [] h (some (.inl q.1), q.2)) (hq : itr2 (F_X12_goalsFromTape_52 x1 k71 k96) N x2 h = some q) : J κ 52 [(0, .inr (.inr 1)), (1, .inl x1), (2, .inl x2)] [] h (some (.inl q.1), q.2) :=
  itr2_ind (fun self hs x2 h q hq => tF_X12_goalsFromTape_52 X x1 k71 k96 self x2 h q hk71 hk96 hs hq) N x2 h q hq
theorem tf_X12_goalsFromTape {κ : Kx} (X : OK κ cX12_goalsFromTape 3 (some .boolean) "StruckWords" 2) (h : Hp) (q : (Int32 × Hp)) (hq : f_X12_goalsFromTape h = some q) : J κ 0 [(0, .inr (.inr 1))] [] h (some (.inl q.1), q.2) := by
  delta f_X12_goalsFromTape at hq
  refine J_aload_n (pc := 0) X (j := 0) (i := 0) rfl rfl dX12_goalsFromTape_0 ?_
  refine J_getF (pc := 1) X (b := 2) ly1 fl_12_14 rfl dX12_goalsFromTape_1 ?_
  refine J_getI (pc := 4) X ly2 fl_12_74 dX12_goalsFromTape_4 ?_
  refine J_ltI hq (fun v1 hq => ?_)
  refine J_istore_n (pc := 7) X (L' := [(1, .inl v1), (0, .inr (.inr 1))]) (i := 1) rfl (by decide) rfl dX12_goalsFromTape_7 ?_
  refine J_aload_n (pc := 8) X (j := 1) (i := 0) rfl rfl dX12_goalsFromTape_8 ?_
  refine J_getF (pc := 9) X (b := 2) ly1 fl_12_14 rfl dX12_goalsFromTape_9 ?_
  refine J_iconst (pc := 12) X (v := 0) (by decide) dX12_goalsFromTape_12 ?_
  refine J_putI (pc := 13) X ly2 fp_12_74 dX12_goalsFromTape_13 ?_
  refine J_ltH hq (fun h2 hq => ?_)
  refine J_iload_n (pc := 16) X (j := 0) (i := 1) rfl rfl dX12_goalsFromTape_16 ?_
  refine J_aload_n (pc := 17) X (j := 1) (i := 0) rfl rfl dX12_goalsFromTape_17 ?_
  refine J_getF (pc := 18) X (b := 6) ly1 fl_12_28 rfl dX12_goalsFromTape_18 ?_
  refine J_getF (pc := 21) X (b := 7) ly6 fl_12_95 rfl dX12_goalsFromTape_21 ?_
  refine J_getF (pc := 24) X (b := 9) ly7 fl_12_210 rfl dX12_goalsFromTape_24 ?_
  refine J_getI (pc := 27) X ly9 fl_12_214 dX12_goalsFromTape_27 ?_
  refine J_iconst (pc := 30) X (v := 1) (by decide) dX12_goalsFromTape_30 ?_
  refine J_iadd (pc := 31) X dX12_goalsFromTape_31 ?_
  refine J_icmp_ne (pc := 32) (tgt := 48) X dX12_goalsFromTape_32 rfl (fun c3 => ?_) (fun c3 => ?_)
  · have hq := ite_f hq c3
    refine J_iconst (pc := 48) X (v := 0) (by decide) dX12_goalsFromTape_48 ?_
    obtain rfl := Option.some.inj hq
    exact J_zret (pc := 49) X (by decide) dX12_goalsFromTape_49
  · have hq := ite_t hq c3
    refine J_aload_n (pc := 35) X (j := 1) (i := 0) rfl rfl dX12_goalsFromTape_35 ?_
    refine J_getF (pc := 36) X (b := 6) ly1 fl_12_28 rfl dX12_goalsFromTape_36 ?_
    refine J_getF (pc := 39) X (b := 7) ly6 fl_12_95 rfl dX12_goalsFromTape_39 ?_
    refine J_getI (pc := 42) X ly7 fl_12_159 dX12_goalsFromTape_42 ?_
    refine J_if_ne (pc := 45) (tgt := 50) X dX12_goalsFromTape_45 rfl (fun c4 => ?_) (fun c4 => ?_)
    · have hq := ite_f hq c4
      refine J_iconst (pc := 50) X (v := 0) (by decide) dX12_goalsFromTape_50 ?_
      refine J_istore_n (pc := 51) X (L' := [(2, .inl 0), (1, .inl v1), (0, .inr (.inr 1))]) (i := 2) rfl (by decide) rfl dX12_goalsFromTape_51 ?_
      refine J_sub [2, 1, 0] rfl ?_
      refine tL_X12_goalsFromTape_52 X _ _ _ N0 _ _ _ ?_ ?_ hq
      · intro h10 q hq
        refine J_iconst (pc := 71) X (v := 0) (by decide) dX12_goalsFromTape_71 ?_
        obtain rfl := Option.some.inj hq
        exact J_zret (pc := 72) X (by decide) dX12_goalsFromTape_72
      · intro h11 q hq
        refine J_iconst (pc := 96) X (v := 1) (by decide) dX12_goalsFromTape_96 ?_
        obtain rfl := Option.some.inj hq
        exact J_zret (pc := 97) X (by decide) dX12_goalsFromTape_97
    · have hq := ite_t hq c4
      refine J_iconst (pc := 48) X (v := 0) (by decide) dX12_goalsFromTape_48 ?_
      obtain rfl := Option.some.inj hq
      exact J_zret (pc := 49) X (by decide) dX12_goalsFromTape_49
theorem m_X12_goalsFromTape (h : Hp) (q : (Int32 × Hp)) (hq : f_X12_goalsFromTape  h = some q) : ∀ l w, CT l w yX12_goalsFromTape cX12_goalsFromTape 3 (some .boolean) 2 [.inr (.inr 1)] h (some (.inl q.1), q.2) :=
  CT_of (L0 := [(0, .inr (.inr 1))]) (by decide) rfl (Nat.le_of_ble_eq_true rfl) (fun κ X => tf_X12_goalsFromTape X  h q  hq)
theorem tf_X12_findWithBeats {κ : Kx} (X : OK κ cX12_findWithBeats 4 (some .int) "StruckWords" 407) (x1 : Int32) (x2 : Int32) (h : Hp) (q : (Int32 × Hp)) (hq : f_X12_findWithBeats x1 x2 h = some q) : J κ 0 [(0, .inr (.inr 1)), (1, .inl x1), (2, .inl x2)] [] h (some (.inl q.1), q.2) := by
  delta f_X12_findWithBeats at hq
  refine J_aload_n (pc := 0) X (j := 0) (i := 0) rfl rfl dX12_findWithBeats_0 ?_
  obtain ⟨v2, h1, hc, hq⟩ := bnd_e hq
  refine J_callV (pc := 1) (as := []) (st := []) (st2 := [.inl v2]) (r1 := (some (.inl v2), h1)) (h2 := h1) (ky := 2) X dX12_findWithBeats_1 ca_X12_goalsFromTape ci_X12_goalsFromTape cs_X12_goalsFromTape ml_12_252 (by decide) ly1 rfl rfl (m_X12_goalsFromTape _ _ hc) rfl rfl (Nat.le_of_ble_eq_true rfl) rfl rfl ?_
  refine J_if_eq (pc := 4) (tgt := 18) X dX12_findWithBeats_4 rfl (fun c3 => ?_) (fun c3 => ?_)
  · have hq := ite_t hq c3
    refine J_bipush (pc := 18) X (v := (-2)) (by decide) dX12_findWithBeats_18 ?_
    obtain rfl := Option.some.inj hq
    exact J_iret (pc := 20) X dX12_findWithBeats_20
  · have hq := ite_f hq c3
    refine J_iload_n (pc := 7) X (j := 2) (i := 2) rfl rfl dX12_findWithBeats_7 ?_
    refine J_iconst (pc := 8) X (v := 1) (by decide) dX12_findWithBeats_8 ?_
    refine J_icmp_lt (pc := 9) (tgt := 18) X dX12_findWithBeats_9 rfl (fun c4 => ?_) (fun c4 => ?_)
    · have hq := ite_t hq c4
      refine J_bipush (pc := 18) X (v := (-2)) (by decide) dX12_findWithBeats_18 ?_
      obtain rfl := Option.some.inj hq
      exact J_iret (pc := 20) X dX12_findWithBeats_20
    · have hq := ite_f hq c4
      refine J_iload_n (pc := 12) X (j := 2) (i := 2) rfl rfl dX12_findWithBeats_12 ?_
      refine J_bipush (pc := 13) X (v := 6) (by decide) dX12_findWithBeats_13 ?_
      refine J_icmp_le (pc := 15) (tgt := 21) X dX12_findWithBeats_15 rfl (fun c5 => ?_) (fun c5 => ?_)
      · have hq := ite_t hq c5
        refine J_aload_n (pc := 21) X (j := 0) (i := 0) rfl rfl dX12_findWithBeats_21 ?_
        refine J_getF (pc := 22) X (b := 122) ly1 fl_12_50 rfl dX12_findWithBeats_22 ?_
        refine J_iload_n (pc := 25) X (j := 1) (i := 1) rfl rfl dX12_findWithBeats_25 ?_
        obtain ⟨h6, hc, hq⟩ := bnv_e hq
        refine J_callV (pc := 26) (as := [.inl x1]) (st := []) (st2 := []) (r1 := (none, h6)) (h2 := h6) (ky := 1) X dX12_findWithBeats_26 ca_X2_wantBeats ci_X2_wantBeats cs_X2_wantBeats ml_12_348 (by decide) ly122 rfl rfl (m_X2_wantBeats _ _ _ hc) rfl rfl (Nat.le_of_ble_eq_true rfl) rfl rfl ?_
        refine J_aload_n (pc := 29) X (j := 0) (i := 0) rfl rfl dX12_findWithBeats_29 ?_
        refine J_getF (pc := 30) X (b := 122) ly1 fl_12_50 rfl dX12_findWithBeats_30 ?_
        refine J_aload_n (pc := 33) X (j := 0) (i := 0) rfl rfl dX12_findWithBeats_33 ?_
        refine J_getF (pc := 34) X (b := 6) ly1 fl_12_28 rfl dX12_findWithBeats_34 ?_
        refine J_getF (pc := 37) X (b := 7) ly6 fl_12_95 rfl dX12_findWithBeats_37 ?_
        refine J_aload_n (pc := 40) X (j := 0) (i := 0) rfl rfl dX12_findWithBeats_40 ?_
        refine J_getF (pc := 41) X (b := 6) ly1 fl_12_28 rfl dX12_findWithBeats_41 ?_
        refine J_getF (pc := 44) X (b := 7) ly6 fl_12_95 rfl dX12_findWithBeats_44 ?_
        refine J_getF (pc := 47) X (b := 9) ly7 fl_12_210 rfl dX12_findWithBeats_47 ?_
        refine J_iload_n (pc := 50) X (j := 2) (i := 2) rfl rfl dX12_findWithBeats_50 ?_
        obtain ⟨v8, h7, hc, hq⟩ := bnd_e hq
        refine J_callV (pc := 51) (as := [.inr (.inr 7), .inr (.inr 9), .inl x2]) (st := []) (st2 := [.inl v8]) (r1 := (some (.inl v8), h7)) (h2 := h7) (ky := 406) X dX12_findWithBeats_51 ca_X2_seekShortest ci_X2_seekShortest cs_X2_seekShortest ml_12_267 (by decide) ly122 rfl rfl (m_X2_seekShortest _ _ _ _ _ ly7 ly9 hc) rfl rfl (Nat.le_of_ble_eq_true rfl) rfl rfl ?_
        refine J_istore_n (pc := 54) X (L' := [(3, .inl v8), (0, .inr (.inr 1)), (1, .inl x1), (2, .inl x2)]) (i := 3) rfl (by decide) rfl dX12_findWithBeats_54 ?_
        refine J_aload_n (pc := 55) X (j := 1) (i := 0) rfl rfl dX12_findWithBeats_55 ?_
        refine J_getF (pc := 56) X (b := 122) ly1 fl_12_50 rfl dX12_findWithBeats_56 ?_
        refine J_iconst (pc := 59) X (v := (-1)) (by decide) dX12_findWithBeats_59 ?_
        obtain ⟨h9, hc, hq⟩ := bnv_e hq
        refine J_callV (pc := 60) (as := [.inl (-1)]) (st := []) (st2 := []) (r1 := (none, h9)) (h2 := h9) (ky := 1) X dX12_findWithBeats_60 ca_X2_wantBeats ci_X2_wantBeats cs_X2_wantBeats ml_12_348 (by decide) ly122 rfl rfl (m_X2_wantBeats _ _ _ hc) rfl rfl (Nat.le_of_ble_eq_true rfl) rfl rfl ?_
        refine J_iload_n (pc := 63) X (j := 0) (i := 3) rfl rfl dX12_findWithBeats_63 ?_
        refine J_if_le (pc := 64) (tgt := 81) X dX12_findWithBeats_64 rfl (fun c10 => ?_) (fun c10 => ?_)
        · have hq := ite_t hq c10
          refine J_iload_n (pc := 81) X (j := 0) (i := 3) rfl rfl dX12_findWithBeats_81 ?_
          obtain rfl := Option.some.inj hq
          exact J_iret (pc := 82) X dX12_findWithBeats_82
        · have hq := ite_f hq c10
          refine J_aload_n (pc := 67) X (j := 1) (i := 0) rfl rfl dX12_findWithBeats_67 ?_
          refine J_getF (pc := 68) X (b := 140) ly1 fl_12_61 rfl dX12_findWithBeats_68 ?_
          refine J_aload_n (pc := 71) X (j := 1) (i := 0) rfl rfl dX12_findWithBeats_71 ?_
          refine J_getF (pc := 72) X (b := 122) ly1 fl_12_50 rfl dX12_findWithBeats_72 ?_
          obtain ⟨r12, h11, hc, hq⟩ := bnd_e hq
          refine J_callV (pc := 75) (as := []) (st := [.inr (.inr 140)]) (st2 := [.inr (.inr r12), .inr (.inr 140)]) (r1 := (some (.inr (.inr r12)), h11)) (h2 := h11) (ky := 1) X dX12_findWithBeats_75 ca_X2_foundRow ci_X2_foundRow cs_X2_foundRow ml_12_285 (by decide) ly122 rfl rfl (m_X2_foundRow _ _ hc) rfl rfl (Nat.le_of_ble_eq_true rfl) rfl rfl ?_
          obtain ⟨g13, hq⟩ := gd hq
          obtain ⟨h14, hc, hq⟩ := bnv_e hq
          refine J_callV (pc := 78) (as := [.inr (.inr r12)]) (st := []) (st2 := []) (r1 := (none, h14)) (h2 := h14) (ky := 3) X dX12_findWithBeats_78 ca_X7_copyFrom ci_X7_copyFrom cs_X7_copyFrom ml_12_152 (by decide) ly140 rfl rfl (m_X7_copyFrom _ _ _ _ ly140 (isO_lay g13) hc) rfl rfl (Nat.le_of_ble_eq_true rfl) rfl rfl ?_
          refine J_iload_n (pc := 81) X (j := 0) (i := 3) rfl rfl dX12_findWithBeats_81 ?_
          obtain rfl := Option.some.inj hq
          exact J_iret (pc := 82) X dX12_findWithBeats_82
      · have hq := ite_f hq c5
        refine J_bipush (pc := 18) X (v := (-2)) (by decide) dX12_findWithBeats_18 ?_
        obtain rfl := Option.some.inj hq
        exact J_iret (pc := 20) X dX12_findWithBeats_20
theorem m_X12_findWithBeats (x1 : Int32) (x2 : Int32) (h : Hp) (q : (Int32 × Hp)) (hq : f_X12_findWithBeats x1 x2 h = some q) : ∀ l w, CT l w yX12_findWithBeats cX12_findWithBeats 4 (some .int) 407 [.inr (.inr 1), .inl x1, .inl x2] h (some (.inl q.1), q.2) :=
  CT_of (L0 := [(0, .inr (.inr 1)), (1, .inl x1), (2, .inl x2)]) (by decide) rfl (Nat.le_of_ble_eq_true rfl) (fun κ X => tf_X12_findWithBeats X x1 x2 h q  hq)
theorem tf_X12_find {κ : Kx} (X : OK κ cX12_find 2 (some .int) "StruckWords" 408) (x1 : Int32) (h : Hp) (q : (Int32 × Hp)) (hq : f_X12_find x1 h = some q) : J κ 0 [(0, .inr (.inr 1)), (1, .inl x1)] [] h (some (.inl q.1), q.2) := by
  delta f_X12_find at hq
  refine J_aload_n (pc := 0) X (j := 0) (i := 0) rfl rfl dX12_find_0 ?_
  refine J_iconst (pc := 1) X (v := (-1)) (by decide) dX12_find_1 ?_
  refine J_iload_n (pc := 2) X (j := 1) (i := 1) rfl rfl dX12_find_2 ?_
  obtain ⟨v2, h1, hc, hq⟩ := bnd_e hq
  refine J_callV (pc := 3) (as := [.inl (-1), .inl x1]) (st := []) (st2 := [.inl v2]) (r1 := (some (.inl v2), h1)) (h2 := h1) (ky := 407) X dX12_find_3 ca_X12_findWithBeats ci_X12_findWithBeats cs_X12_findWithBeats ml_12_248 (by decide) ly1 rfl rfl (m_X12_findWithBeats _ _ _ _ hc) rfl rfl (Nat.le_of_ble_eq_true rfl) rfl rfl ?_
  obtain rfl := Option.some.inj hq
  exact J_iret (pc := 6) X dX12_find_6
theorem m_X12_find (x1 : Int32) (h : Hp) (q : (Int32 × Hp)) (hq : f_X12_find x1 h = some q) : ∀ l w, CT l w yX12_find cX12_find 2 (some .int) 408 [.inr (.inr 1), .inl x1] h (some (.inl q.1), q.2) :=
  CT_of (L0 := [(0, .inr (.inr 1)), (1, .inl x1)]) (by decide) rfl (Nat.le_of_ble_eq_true rfl) (fun κ X => tf_X12_find X x1 h q  hq)
theorem tf_X12_cheapest {κ : Kx} (X : OK κ cX12_cheapest 3 (some .int) "StruckWords" 407) (x1 : Int32) (h : Hp) (q : (Int32 × Hp)) (hq : f_X12_cheapest x1 h = some q) : J κ 0 [(0, .inr (.inr 1)), (1, .inl x1)] [] h (some (.inl q.1), q.2) := by
  delta f_X12_cheapest at hq
  refine J_aload_n (pc := 0) X (j := 0) (i := 0) rfl rfl dX12_cheapest_0 ?_
  obtain ⟨v2, h1, hc, hq⟩ := bnd_e hq
  refine J_callV (pc := 1) (as := []) (st := []) (st2 := [.inl v2]) (r1 := (some (.inl v2), h1)) (h2 := h1) (ky := 2) X dX12_cheapest_1 ca_X12_goalsFromTape ci_X12_goalsFromTape cs_X12_goalsFromTape ml_12_252 (by decide) ly1 rfl rfl (m_X12_goalsFromTape _ _ hc) rfl rfl (Nat.le_of_ble_eq_true rfl) rfl rfl ?_
  refine J_if_eq (pc := 4) (tgt := 17) X dX12_cheapest_4 rfl (fun c3 => ?_) (fun c3 => ?_)
  · have hq := ite_t hq c3
    refine J_bipush (pc := 17) X (v := (-2)) (by decide) dX12_cheapest_17 ?_
    obtain rfl := Option.some.inj hq
    exact J_iret (pc := 19) X dX12_cheapest_19
  · have hq := ite_f hq c3
    refine J_iload_n (pc := 7) X (j := 1) (i := 1) rfl rfl dX12_cheapest_7 ?_
    refine J_iconst (pc := 8) X (v := 1) (by decide) dX12_cheapest_8 ?_
    refine J_icmp_lt (pc := 9) (tgt := 17) X dX12_cheapest_9 rfl (fun c4 => ?_) (fun c4 => ?_)
    · have hq := ite_t hq c4
      refine J_bipush (pc := 17) X (v := (-2)) (by decide) dX12_cheapest_17 ?_
      obtain rfl := Option.some.inj hq
      exact J_iret (pc := 19) X dX12_cheapest_19
    · have hq := ite_f hq c4
      refine J_iload_n (pc := 12) X (j := 1) (i := 1) rfl rfl dX12_cheapest_12 ?_
      refine J_iconst (pc := 13) X (v := 5) (by decide) dX12_cheapest_13 ?_
      refine J_icmp_le (pc := 14) (tgt := 20) X dX12_cheapest_14 rfl (fun c5 => ?_) (fun c5 => ?_)
      · have hq := ite_t hq c5
        refine J_aload_n (pc := 20) X (j := 0) (i := 0) rfl rfl dX12_cheapest_20 ?_
        refine J_getF (pc := 21) X (b := 122) ly1 fl_12_50 rfl dX12_cheapest_21 ?_
        refine J_aload_n (pc := 24) X (j := 0) (i := 0) rfl rfl dX12_cheapest_24 ?_
        refine J_getF (pc := 25) X (b := 6) ly1 fl_12_28 rfl dX12_cheapest_25 ?_
        refine J_getF (pc := 28) X (b := 7) ly6 fl_12_95 rfl dX12_cheapest_28 ?_
        refine J_iload_n (pc := 31) X (j := 1) (i := 1) rfl rfl dX12_cheapest_31 ?_
        obtain ⟨v7, h6, hc, hq⟩ := bnd_e hq
        refine J_callV (pc := 32) (as := [.inr (.inr 7), .inl x1]) (st := []) (st2 := [.inl v7]) (r1 := (some (.inl v7), h6)) (h2 := h6) (ky := 406) X dX12_cheapest_32 ca_X2_seekCheapest ci_X2_seekCheapest cs_X2_seekCheapest ml_12_256 (by decide) ly122 rfl rfl (m_X2_seekCheapest _ _ _ _ ly7 hc) rfl rfl (Nat.le_of_ble_eq_true rfl) rfl rfl ?_
        refine J_istore_n (pc := 35) X (L' := [(2, .inl v7), (0, .inr (.inr 1)), (1, .inl x1)]) (i := 2) rfl (by decide) rfl dX12_cheapest_35 ?_
        refine J_iload_n (pc := 36) X (j := 0) (i := 2) rfl rfl dX12_cheapest_36 ?_
        refine J_if_lt (pc := 37) (tgt := 54) X dX12_cheapest_37 rfl (fun c8 => ?_) (fun c8 => ?_)
        · have hq := ite_t hq c8
          refine J_iload_n (pc := 54) X (j := 0) (i := 2) rfl rfl dX12_cheapest_54 ?_
          obtain rfl := Option.some.inj hq
          exact J_iret (pc := 55) X dX12_cheapest_55
        · have hq := ite_f hq c8
          refine J_aload_n (pc := 40) X (j := 1) (i := 0) rfl rfl dX12_cheapest_40 ?_
          refine J_getF (pc := 41) X (b := 140) ly1 fl_12_61 rfl dX12_cheapest_41 ?_
          refine J_aload_n (pc := 44) X (j := 1) (i := 0) rfl rfl dX12_cheapest_44 ?_
          refine J_getF (pc := 45) X (b := 122) ly1 fl_12_50 rfl dX12_cheapest_45 ?_
          refine J_getF (pc := 48) X (b := 131) ly122 fl_12_260 rfl dX12_cheapest_48 ?_
          obtain ⟨h9, hc, hq⟩ := bnv_e hq
          refine J_callV (pc := 51) (as := [.inr (.inr 131)]) (st := []) (st2 := []) (r1 := (none, h9)) (h2 := h9) (ky := 3) X dX12_cheapest_51 ca_X7_copyFrom ci_X7_copyFrom cs_X7_copyFrom ml_12_152 (by decide) ly140 rfl rfl (m_X7_copyFrom _ _ _ _ ly140 ly131 hc) rfl rfl (Nat.le_of_ble_eq_true rfl) rfl rfl ?_
          refine J_iload_n (pc := 54) X (j := 0) (i := 2) rfl rfl dX12_cheapest_54 ?_
          obtain rfl := Option.some.inj hq
          exact J_iret (pc := 55) X dX12_cheapest_55
      · have hq := ite_f hq c5
        refine J_bipush (pc := 17) X (v := (-2)) (by decide) dX12_cheapest_17 ?_
        obtain rfl := Option.some.inj hq
        exact J_iret (pc := 19) X dX12_cheapest_19
theorem m_X12_cheapest (x1 : Int32) (h : Hp) (q : (Int32 × Hp)) (hq : f_X12_cheapest x1 h = some q) : ∀ l w, CT l w yX12_cheapest cX12_cheapest 3 (some .int) 407 [.inr (.inr 1), .inl x1] h (some (.inl q.1), q.2) :=
  CT_of (L0 := [(0, .inr (.inr 1)), (1, .inl x1)]) (by decide) rfl (Nat.le_of_ble_eq_true rfl) (fun κ X => tf_X12_cheapest X x1 h q  hq)
theorem tB_X12_verse_10 {κ : Kx} (X : OK κ cX12_verse 3 (some .int) "StruckWords" 408) (h : Hp) (q : (Int32 × Hp)) (hq : B_X12_verse_10 h = some q) : J κ 10 [(0, .inr (.inr 1))] [] h (some (.inl q.1), q.2) := by
  delta B_X12_verse_10 at hq
  refine J_aload_n (pc := 10) X (j := 0) (i := 0) rfl rfl dX12_verse_10 ?_
  refine J_getF (pc := 11) X (b := 2) ly1 fl_12_14 rfl dX12_verse_11 ?_
  refine J_iconst (pc := 14) X (v := 0) (by decide) dX12_verse_14 ?_
  refine J_putI (pc := 15) X ly2 fp_12_74 dX12_verse_15 ?_
  refine J_ltH hq (fun h2 hq => ?_)
  refine J_bipush (pc := 18) X (v := (-2)) (by decide) dX12_verse_18 ?_
  obtain rfl := Option.some.inj hq
  exact J_iret (pc := 20) X dX12_verse_20
theorem tf_X12_verse {κ : Kx} (X : OK κ cX12_verse 3 (some .int) "StruckWords" 408) (x1 : Int32) (x2 : Int32) (h : Hp) (q : (Int32 × Hp)) (hq : f_X12_verse x1 x2 h = some q) : J κ 0 [(0, .inr (.inr 1)), (1, .inl x1), (2, .inl x2)] [] h (some (.inl q.1), q.2) := by
  delta f_X12_verse at hq
  refine J_iload_n (pc := 0) X (j := 1) (i := 1) rfl rfl dX12_verse_0 ?_
  refine J_if_lt (pc := 1) (tgt := 10) X dX12_verse_1 rfl (fun c1 => ?_) (fun c1 => ?_)
  · have hq := ite_t hq c1
    refine J_sub [0] rfl ?_
    exact tB_X12_verse_10 X _ _ hq
  · have hq := ite_f hq c1
    refine J_iload_n (pc := 4) X (j := 1) (i := 1) rfl rfl dX12_verse_4 ?_
    refine J_bipush (pc := 5) X (v := 54) (by decide) dX12_verse_5 ?_
    refine J_icmp_le (pc := 7) (tgt := 21) X dX12_verse_7 rfl (fun c3 => ?_) (fun c3 => ?_)
    · have hq := ite_t hq c3
      refine J_aload_n (pc := 21) X (j := 0) (i := 0) rfl rfl dX12_verse_21 ?_
      refine J_iload_n (pc := 22) X (j := 1) (i := 1) rfl rfl dX12_verse_22 ?_
      refine J_iload_n (pc := 23) X (j := 2) (i := 2) rfl rfl dX12_verse_23 ?_
      obtain ⟨v5, h4, hc, hq⟩ := bnd_e hq
      refine J_callV (pc := 24) (as := [.inl x1, .inl x2]) (st := []) (st2 := [.inl v5]) (r1 := (some (.inl v5), h4)) (h2 := h4) (ky := 407) X dX12_verse_24 ca_X12_findWithBeats ci_X12_findWithBeats cs_X12_findWithBeats ml_12_248 (by decide) ly1 rfl rfl (m_X12_findWithBeats _ _ _ _ hc) rfl rfl (Nat.le_of_ble_eq_true rfl) rfl rfl ?_
      obtain rfl := Option.some.inj hq
      exact J_iret (pc := 27) X dX12_verse_27
    · have hq := ite_f hq c3
      refine J_sub [0] rfl ?_
      exact tB_X12_verse_10 X _ _ hq
theorem m_X12_verse (x1 : Int32) (x2 : Int32) (h : Hp) (q : (Int32 × Hp)) (hq : f_X12_verse x1 x2 h = some q) : ∀ l w, CT l w yX12_verse cX12_verse 3 (some .int) 408 [.inr (.inr 1), .inl x1, .inl x2] h (some (.inl q.1), q.2) :=
  CT_of (L0 := [(0, .inr (.inr 1)), (1, .inl x1), (2, .inl x2)]) (by decide) rfl (Nat.le_of_ble_eq_true rfl) (fun κ X => tf_X12_verse X x1 x2 h q  hq)
theorem tf_X12_longer {κ : Kx} (X : OK κ cX12_longer 5 (some .int) "StruckWords" 407) (x1 : Int32) (x2 : Int32) (h : Hp) (q : (Int32 × Hp)) (hq : f_X12_longer x1 x2 h = some q) : J κ 0 [(0, .inr (.inr 1)), (1, .inl x1), (2, .inl x2)] [] h (some (.inl q.1), q.2) := by
  delta f_X12_longer at hq
  refine J_iload_n (pc := 0) X (j := 1) (i := 1) rfl rfl dX12_longer_0 ?_
  obtain ⟨v2, h1, hc, hq⟩ := bnd_e hq
  refine J_callS (pc := 1) (as := [.inl x1]) (st := []) (st2 := [.inl v2]) (r1 := (some (.inl v2), h1)) (h2 := h1) (ky := 1) X dX12_longer_1 ca_X12_isMeaning cz_X12_isMeaning ml_12_131 (by decide) (m_X12_isMeaning _ _ _ hc) rfl rfl (Nat.le_of_ble_eq_true rfl) rfl rfl ?_
  refine J_if_eq (pc := 4) (tgt := 18) X dX12_longer_4 rfl (fun c3 => ?_) (fun c3 => ?_)
  · have hq := ite_t hq c3
    refine J_bipush (pc := 18) X (v := (-7)) (by decide) dX12_longer_18 ?_
    obtain rfl := Option.some.inj hq
    exact J_iret (pc := 20) X dX12_longer_20
  · have hq := ite_f hq c3
    refine J_iload_n (pc := 7) X (j := 2) (i := 2) rfl rfl dX12_longer_7 ?_
    refine J_iconst (pc := 8) X (v := 1) (by decide) dX12_longer_8 ?_
    refine J_icmp_lt (pc := 9) (tgt := 18) X dX12_longer_9 rfl (fun c4 => ?_) (fun c4 => ?_)
    · have hq := ite_t hq c4
      refine J_bipush (pc := 18) X (v := (-7)) (by decide) dX12_longer_18 ?_
      obtain rfl := Option.some.inj hq
      exact J_iret (pc := 20) X dX12_longer_20
    · have hq := ite_f hq c4
      refine J_iload_n (pc := 12) X (j := 2) (i := 2) rfl rfl dX12_longer_12 ?_
      refine J_bipush (pc := 13) X (v := 6) (by decide) dX12_longer_13 ?_
      refine J_icmp_le (pc := 15) (tgt := 21) X dX12_longer_15 rfl (fun c5 => ?_) (fun c5 => ?_)
      · have hq := ite_t hq c5
        refine J_aload_n (pc := 21) X (j := 0) (i := 0) rfl rfl dX12_longer_21 ?_
        refine J_getF (pc := 22) X (b := 122) ly1 fl_12_50 rfl dX12_longer_22 ?_
        refine J_iload_n (pc := 25) X (j := 1) (i := 1) rfl rfl dX12_longer_25 ?_
        refine J_bipush (pc := 26) X (v := 9) (by decide) dX12_longer_26 ?_
        obtain ⟨h6, hc, hq⟩ := bnv_e hq
        refine J_callV (pc := 28) (as := [.inl x1, .inl 9]) (st := []) (st2 := []) (r1 := (none, h6)) (h2 := h6) (ky := 2) X dX12_longer_28 ca_X2_wantByAll ci_X2_wantByAll cs_X2_wantByAll ml_12_263 (by decide) ly122 rfl rfl (m_X2_wantByAll _ _ _ _ hc) rfl rfl (Nat.le_of_ble_eq_true rfl) rfl rfl ?_
        refine J_aload_n (pc := 31) X (j := 0) (i := 0) rfl rfl dX12_longer_31 ?_
        refine J_getF (pc := 32) X (b := 122) ly1 fl_12_50 rfl dX12_longer_32 ?_
        refine J_aload_n (pc := 35) X (j := 0) (i := 0) rfl rfl dX12_longer_35 ?_
        refine J_getF (pc := 36) X (b := 6) ly1 fl_12_28 rfl dX12_longer_36 ?_
        refine J_getF (pc := 39) X (b := 7) ly6 fl_12_95 rfl dX12_longer_39 ?_
        refine J_aload_n (pc := 42) X (j := 0) (i := 0) rfl rfl dX12_longer_42 ?_
        refine J_getF (pc := 43) X (b := 6) ly1 fl_12_28 rfl dX12_longer_43 ?_
        refine J_getF (pc := 46) X (b := 7) ly6 fl_12_95 rfl dX12_longer_46 ?_
        refine J_getF (pc := 49) X (b := 9) ly7 fl_12_210 rfl dX12_longer_49 ?_
        refine J_iload_n (pc := 52) X (j := 2) (i := 2) rfl rfl dX12_longer_52 ?_
        obtain ⟨v8, h7, hc, hq⟩ := bnd_e hq
        refine J_callV (pc := 53) (as := [.inr (.inr 7), .inr (.inr 9), .inl x2]) (st := []) (st2 := [.inl v8]) (r1 := (some (.inl v8), h7)) (h2 := h7) (ky := 406) X dX12_longer_53 ca_X2_seekShortest ci_X2_seekShortest cs_X2_seekShortest ml_12_267 (by decide) ly122 rfl rfl (m_X2_seekShortest _ _ _ _ _ ly7 ly9 hc) rfl rfl (Nat.le_of_ble_eq_true rfl) rfl rfl ?_
        refine J_istore_n (pc := 56) X (L' := [(3, .inl v8), (0, .inr (.inr 1)), (1, .inl x1), (2, .inl x2)]) (i := 3) rfl (by decide) rfl dX12_longer_56 ?_
        refine J_aload_n (pc := 57) X (j := 1) (i := 0) rfl rfl dX12_longer_57 ?_
        refine J_getF (pc := 58) X (b := 122) ly1 fl_12_50 rfl dX12_longer_58 ?_
        refine J_bipush (pc := 61) X (v := 9) (by decide) dX12_longer_61 ?_
        refine J_iload_n (pc := 63) X (j := 2) (i := 1) rfl rfl dX12_longer_63 ?_
        obtain ⟨h9, hc, hq⟩ := bnv_e hq
        refine J_callV (pc := 64) (as := [.inl 9, .inl x1]) (st := []) (st2 := []) (r1 := (none, h9)) (h2 := h9) (ky := 2) X dX12_longer_64 ca_X2_wantByAll ci_X2_wantByAll cs_X2_wantByAll ml_12_263 (by decide) ly122 rfl rfl (m_X2_wantByAll _ _ _ _ hc) rfl rfl (Nat.le_of_ble_eq_true rfl) rfl rfl ?_
        refine J_aload_n (pc := 67) X (j := 1) (i := 0) rfl rfl dX12_longer_67 ?_
        refine J_getF (pc := 68) X (b := 122) ly1 fl_12_50 rfl dX12_longer_68 ?_
        refine J_aload_n (pc := 71) X (j := 1) (i := 0) rfl rfl dX12_longer_71 ?_
        refine J_getF (pc := 72) X (b := 6) ly1 fl_12_28 rfl dX12_longer_72 ?_
        refine J_getF (pc := 75) X (b := 7) ly6 fl_12_95 rfl dX12_longer_75 ?_
        refine J_aload_n (pc := 78) X (j := 1) (i := 0) rfl rfl dX12_longer_78 ?_
        refine J_getF (pc := 79) X (b := 6) ly1 fl_12_28 rfl dX12_longer_79 ?_
        refine J_getF (pc := 82) X (b := 7) ly6 fl_12_95 rfl dX12_longer_82 ?_
        refine J_getF (pc := 85) X (b := 9) ly7 fl_12_210 rfl dX12_longer_85 ?_
        refine J_iload_n (pc := 88) X (j := 3) (i := 2) rfl rfl dX12_longer_88 ?_
        obtain ⟨v11, h10, hc, hq⟩ := bnd_e hq
        refine J_callV (pc := 89) (as := [.inr (.inr 7), .inr (.inr 9), .inl x2]) (st := []) (st2 := [.inl v11]) (r1 := (some (.inl v11), h10)) (h2 := h10) (ky := 406) X dX12_longer_89 ca_X2_seekShortest ci_X2_seekShortest cs_X2_seekShortest ml_12_267 (by decide) ly122 rfl rfl (m_X2_seekShortest _ _ _ _ _ ly7 ly9 hc) rfl rfl (Nat.le_of_ble_eq_true rfl) rfl rfl ?_
        refine J_istore (pc := 92) X (L' := [(4, .inl v11), (3, .inl v8), (0, .inr (.inr 1)), (1, .inl x1), (2, .inl x2)]) (by decide) rfl dX12_longer_92 ?_
        refine J_iload_n (pc := 94) X (j := 1) (i := 3) rfl rfl dX12_longer_94 ?_
        refine J_if_lt (pc := 95) (tgt := 103) X dX12_longer_95 rfl (fun c12 => ?_) (fun c12 => ?_)
        · have hq := ite_t hq c12
          refine J_bipush (pc := 103) X (v := (-7)) (by decide) dX12_longer_103 ?_
          refine J_goto (pc := 105) X (tgt := 112) dX12_longer_105 rfl ?_
          obtain rfl := Option.some.inj hq
          exact J_iret (pc := 112) X dX12_longer_112
        · have hq := ite_f hq c12
          refine J_iload (pc := 98) X (j := 0) rfl dX12_longer_98 ?_
          refine J_if_ge (pc := 100) (tgt := 108) X dX12_longer_100 rfl (fun c13 => ?_) (fun c13 => ?_)
          · have hq := ite_t hq c13
            refine J_iload (pc := 108) X (j := 0) rfl dX12_longer_108 ?_
            refine J_iload_n (pc := 110) X (j := 1) (i := 3) rfl rfl dX12_longer_110 ?_
            refine J_isub (pc := 111) X dX12_longer_111 ?_
            obtain rfl := Option.some.inj hq
            exact J_iret (pc := 112) X dX12_longer_112
          · have hq := ite_f hq c13
            refine J_bipush (pc := 103) X (v := (-7)) (by decide) dX12_longer_103 ?_
            refine J_goto (pc := 105) X (tgt := 112) dX12_longer_105 rfl ?_
            obtain rfl := Option.some.inj hq
            exact J_iret (pc := 112) X dX12_longer_112
      · have hq := ite_f hq c5
        refine J_bipush (pc := 18) X (v := (-7)) (by decide) dX12_longer_18 ?_
        obtain rfl := Option.some.inj hq
        exact J_iret (pc := 20) X dX12_longer_20
theorem m_X12_longer (x1 : Int32) (x2 : Int32) (h : Hp) (q : (Int32 × Hp)) (hq : f_X12_longer x1 x2 h = some q) : ∀ l w, CT l w yX12_longer cX12_longer 5 (some .int) 407 [.inr (.inr 1), .inl x1, .inl x2] h (some (.inl q.1), q.2) :=
  CT_of (L0 := [(0, .inr (.inr 1)), (1, .inl x1), (2, .inl x2)]) (by decide) rfl (Nat.le_of_ble_eq_true rfl) (fun κ X => tf_X12_longer X x1 x2 h q  hq)
theorem tf_X12_foundAt {κ : Kx} (X : OK κ cX12_foundAt 2 (some .int) "StruckWords" 2) (x1 : Int32) (h : Hp) (q : (Int32 × Hp)) (hq : f_X12_foundAt x1 h = some q) : J κ 0 [(0, .inr (.inr 1)), (1, .inl x1)] [] h (some (.inl q.1), q.2) := by
  delta f_X12_foundAt at hq
  refine J_aload_n (pc := 0) X (j := 0) (i := 0) rfl rfl dX12_foundAt_0 ?_
  refine J_getF (pc := 1) X (b := 140) ly1 fl_12_61 rfl dX12_foundAt_1 ?_
  refine J_iload_n (pc := 4) X (j := 1) (i := 1) rfl rfl dX12_foundAt_4 ?_
  obtain ⟨v2, h1, hc, hq⟩ := bnd_e hq
  refine J_callV (pc := 5) (as := [.inl x1]) (st := []) (st2 := [.inl v2]) (r1 := (some (.inl v2), h1)) (h2 := h1) (ky := 1) X dX12_foundAt_5 ca_X7_atOrNone ci_X7_atOrNone cs_X7_atOrNone ml_12_183 (by decide) ly140 rfl rfl (m_X7_atOrNone _ _ _ _ ly140 hc) rfl rfl (Nat.le_of_ble_eq_true rfl) rfl rfl ?_
  obtain rfl := Option.some.inj hq
  exact J_iret (pc := 8) X dX12_foundAt_8
theorem m_X12_foundAt (x1 : Int32) (h : Hp) (q : (Int32 × Hp)) (hq : f_X12_foundAt x1 h = some q) : ∀ l w, CT l w yX12_foundAt cX12_foundAt 2 (some .int) 2 [.inr (.inr 1), .inl x1] h (some (.inl q.1), q.2) :=
  CT_of (L0 := [(0, .inr (.inr 1)), (1, .inl x1)]) (by decide) rfl (Nat.le_of_ble_eq_true rfl) (fun κ X => tf_X12_foundAt X x1 h q  hq)
theorem tf_X12_sayable {κ : Kx} (X : OK κ cX12_sayable 2 (some .int) "StruckWords" 407) (x1 : Int32) (h : Hp) (q : (Int32 × Hp)) (hq : f_X12_sayable x1 h = some q) : J κ 0 [(0, .inr (.inr 1)), (1, .inl x1)] [] h (some (.inl q.1), q.2) := by
  delta f_X12_sayable at hq
  refine J_iload_n (pc := 0) X (j := 1) (i := 1) rfl rfl dX12_sayable_0 ?_
  refine J_iconst (pc := 1) X (v := 1) (by decide) dX12_sayable_1 ?_
  refine J_icmp_lt (pc := 2) (tgt := 10) X dX12_sayable_2 rfl (fun c1 => ?_) (fun c1 => ?_)
  · have hq := ite_t hq c1
    refine J_iconst (pc := 10) X (v := (-1)) (by decide) dX12_sayable_10 ?_
    refine J_goto (pc := 11) X (tgt := 29) dX12_sayable_11 rfl ?_
    obtain rfl := Option.some.inj hq
    exact J_iret (pc := 29) X dX12_sayable_29
  · have hq := ite_f hq c1
    refine J_iload_n (pc := 5) X (j := 1) (i := 1) rfl rfl dX12_sayable_5 ?_
    refine J_iconst (pc := 6) X (v := 5) (by decide) dX12_sayable_6 ?_
    refine J_icmp_le (pc := 7) (tgt := 14) X dX12_sayable_7 rfl (fun c2 => ?_) (fun c2 => ?_)
    · have hq := ite_t hq c2
      refine J_aload_n (pc := 14) X (j := 0) (i := 0) rfl rfl dX12_sayable_14 ?_
      refine J_getF (pc := 15) X (b := 122) ly1 fl_12_50 rfl dX12_sayable_15 ?_
      refine J_aload_n (pc := 18) X (j := 0) (i := 0) rfl rfl dX12_sayable_18 ?_
      refine J_getF (pc := 19) X (b := 6) ly1 fl_12_28 rfl dX12_sayable_19 ?_
      refine J_getF (pc := 22) X (b := 7) ly6 fl_12_95 rfl dX12_sayable_22 ?_
      refine J_iload_n (pc := 25) X (j := 1) (i := 1) rfl rfl dX12_sayable_25 ?_
      obtain ⟨v4, h3, hc, hq⟩ := bnd_e hq
      refine J_callV (pc := 26) (as := [.inr (.inr 7), .inl x1]) (st := []) (st2 := [.inl v4]) (r1 := (some (.inl v4), h3)) (h2 := h3) (ky := 406) X dX12_sayable_26 ca_X2_collectSafe ci_X2_collectSafe cs_X2_collectSafe ml_12_271 (by decide) ly122 rfl rfl (m_X2_collectSafe _ _ _ _ ly7 hc) rfl rfl (Nat.le_of_ble_eq_true rfl) rfl rfl ?_
      obtain rfl := Option.some.inj hq
      exact J_iret (pc := 29) X dX12_sayable_29
    · have hq := ite_f hq c2
      refine J_iconst (pc := 10) X (v := (-1)) (by decide) dX12_sayable_10 ?_
      refine J_goto (pc := 11) X (tgt := 29) dX12_sayable_11 rfl ?_
      obtain rfl := Option.some.inj hq
      exact J_iret (pc := 29) X dX12_sayable_29
theorem m_X12_sayable (x1 : Int32) (h : Hp) (q : (Int32 × Hp)) (hq : f_X12_sayable x1 h = some q) : ∀ l w, CT l w yX12_sayable cX12_sayable 2 (some .int) 407 [.inr (.inr 1), .inl x1] h (some (.inl q.1), q.2) :=
  CT_of (L0 := [(0, .inr (.inr 1)), (1, .inl x1)]) (by decide) rfl (Nat.le_of_ble_eq_true rfl) (fun κ X => tf_X12_sayable X x1 h q  hq)
theorem tB_X12_mostSayableWith_140 {κ : Kx} (X : OK κ cX12_mostSayableWith 10 (some .int) "StruckWords" 407) (x1 : Int32) (x2 : Int32) (x6 : Int32) (x7 : Int32) (k157 : Int32 → Int32 → Hp → Option (Int32 × Hp)) (self : Int32 → Int32 → Int32 → Hp → Option (Int32 × Hp)) (x4 : Int32) (x8 : Int32) (x9 : Int32) (t0 : Int32) (h : Hp) (q : (Int32 × Hp)) (hk157 : ∀ (x4 : Int32) (x5 : Int32) (h : Hp) (q : (Int32 × Hp)), k157 x4 x5 h = some q → J κ 157 [(0, .inr (.inr 1)), (1, .inl x1), (2, .inl x2), (3, .inr (.inr 7)), (4, .inl x4), (5, .inl x5), (6, .inl x6), (7, .inl x7)] [] h (some (.inl q.1), q.2)) (hself : ∀ (x4 : Int32) (x5 : Int32) (x8 : Int32) (h : Hp) (q : (Int32 × Hp)), self x4 x5 x8 h = some q → J κ 67 [(0, .inr (.inr 1)), (1, .inl x1), (2, .inl x2), (3, .inr (.inr 7)), (4, .inl x4), (5, .inl x5), (6, .inl x6), (7, .inl x7), (8, .inl x8)] [] h (some (.inl q.1), q.2)) (hq : B_X12_mostSayableWith_140 x1 x2 x6 x7 k157 self x4 x8 x9 t0 h = some q) : J κ 140 [(0, .inr (.inr 1)), (1, .inl x1), (2, .inl x2), (3, .inr (.inr 7)), (4, .inl x4), (6, .inl x6), (7, .inl x7), (8, .inl x8), (9, .inl x9)] [.inl t0] h (some (.inl q.1), q.2) := by
  delta B_X12_mostSayableWith_140 at hq
  refine J_istore (pc := 140) X (L' := [(5, .inl t0), (0, .inr (.inr 1)), (1, .inl x1), (2, .inl x2), (3, .inr (.inr 7)), (4, .inl x4), (6, .inl x6), (7, .inl x7), (8, .inl x8), (9, .inl x9)]) (by decide) rfl dX12_mostSayableWith_140 ?_
  refine J_iload (pc := 142) X (j := 5) rfl dX12_mostSayableWith_142 ?_
  refine J_iload (pc := 144) X (j := 9) rfl dX12_mostSayableWith_144 ?_
  refine J_mmax (pc := 146) X ml_12_343 dX12_mostSayableWith_146 (Nat.le_of_ble_eq_true rfl) ?_
  refine J_ltI hq (fun v21 hq => ?_)
  refine J_istore (pc := 149) X (L' := [(4, .inl v21), (5, .inl t0), (0, .inr (.inr 1)), (1, .inl x1), (2, .inl x2), (3, .inr (.inr 7)), (6, .inl x6), (7, .inl x7), (8, .inl x8), (9, .inl x9)]) (by decide) rfl dX12_mostSayableWith_149 ?_
  refine J_iinc (pc := 151) X (j := 8) (v := 1) (L' := [(8, .inl (x8 + 1)), (4, .inl v21), (5, .inl t0), (0, .inr (.inr 1)), (1, .inl x1), (2, .inl x2), (3, .inr (.inr 7)), (6, .inl x6), (7, .inl x7), (9, .inl x9)]) rfl (by decide) (by decide) rfl dX12_mostSayableWith_151 ?_
  refine J_goto (pc := 154) X (tgt := 67) dX12_mostSayableWith_154 rfl ?_
  refine J_sub [3, 4, 5, 6, 1, 2, 7, 8, 0] rfl ?_
  exact hself _ _ _ _ _ hq
theorem tF_X12_mostSayableWith_67 {κ : Kx} (X : OK κ cX12_mostSayableWith 10 (some .int) "StruckWords" 407) (x1 : Int32) (x2 : Int32) (x6 : Int32) (x7 : Int32) (k157 : Int32 → Int32 → Hp → Option (Int32 × Hp)) (self : Int32 → Int32 → Int32 → Hp → Option (Int32 × Hp)) (x4 : Int32) (x5 : Int32) (x8 : Int32) (h : Hp) (q : (Int32 × Hp)) (hk157 : ∀ (x4 : Int32) (x5 : Int32) (h : Hp) (q : (Int32 × Hp)), k157 x4 x5 h = some q → J κ 157 [(0, .inr (.inr 1)), (1, .inl x1), (2, .inl x2), (3, .inr (.inr 7)), (4, .inl x4), (5, .inl x5), (6, .inl x6), (7, .inl x7)] [] h (some (.inl q.1), q.2)) (hself : ∀ (x4 : Int32) (x5 : Int32) (x8 : Int32) (h : Hp) (q : (Int32 × Hp)), self x4 x5 x8 h = some q → J κ 67 [(0, .inr (.inr 1)), (1, .inl x1), (2, .inl x2), (3, .inr (.inr 7)), (4, .inl x4), (5, .inl x5), (6, .inl x6), (7, .inl x7), (8, .inl x8)] [] h (some (.inl q.1), q.2)) (hq : F_X12_mostSayableWith_67 x1 x2 x6 x7 k157 self x4 x5 x8 h = some q) : J κ 67 [(0, .inr (.inr 1)), (1, .inl x1), (2, .inl x2), (3, .inr (.inr 7)), (4, .inl x4), (5, .inl x5), (6, .inl x6), (7, .inl x7), (8, .inl x8)] [] h (some (.inl q.1), q.2) := by
  delta F_X12_mostSayableWith_67 at hq
  refine J_iload (pc := 67) X (j := 8) rfl dX12_mostSayableWith_67 ?_
  refine J_aload_n (pc := 69) X (j := 3) (i := 3) rfl rfl dX12_mostSayableWith_69 ?_
  refine J_getI (pc := 70) X ly7 fl_12_329 dX12_mostSayableWith_70 ?_
  refine J_icmp_ge (pc := 73) (tgt := 157) X dX12_mostSayableWith_73 rfl (fun c10 => ?_) (fun c10 => ?_)
  · have hq := ite_t hq c10
    refine J_sub [0, 1, 2, 3, 4, 5, 6, 7] rfl ?_
    exact hk157 _ _ _ _ hq
  · have hq := ite_f hq c10
    refine J_aload_n (pc := 76) X (j := 3) (i := 3) rfl rfl dX12_mostSayableWith_76 ?_
    refine J_iload_n (pc := 77) X (j := 1) (i := 1) rfl rfl dX12_mostSayableWith_77 ?_
    refine J_iload (pc := 78) X (j := 7) rfl dX12_mostSayableWith_78 ?_
    refine J_iload (pc := 80) X (j := 8) rfl dX12_mostSayableWith_80 ?_
    obtain ⟨v12, h11, hc, hq⟩ := bnd_e hq
    refine J_callV (pc := 82) (as := [.inl x1, .inl x7, .inl x8]) (st := []) (st2 := [.inl v12]) (r1 := (some (.inl v12), h11)) (h2 := h11) (ky := 2) X dX12_mostSayableWith_82 ca_X10_isTold ci_X10_isTold cs_X10_isTold ml_12_335 (by decide) ly7 rfl rfl (m_X10_isTold _ _ _ _ _ _ ly7 hc) rfl rfl (Nat.le_of_ble_eq_true rfl) rfl rfl ?_
    refine J_if_ne (pc := 85) (tgt := 151) X dX12_mostSayableWith_85 rfl (fun c13 => ?_) (fun c13 => ?_)
    · have hq := ite_f hq c13
      refine J_iinc (pc := 151) X (j := 8) (v := 1) (L' := [(8, .inl (x8 + 1)), (0, .inr (.inr 1)), (1, .inl x1), (2, .inl x2), (3, .inr (.inr 7)), (4, .inl x4), (5, .inl x5), (6, .inl x6), (7, .inl x7)]) rfl (by decide) (by decide) rfl dX12_mostSayableWith_151 ?_
      refine J_goto (pc := 154) X (tgt := 67) dX12_mostSayableWith_154 rfl ?_
      refine J_sub [1, 2, 3, 4, 5, 6, 7, 8, 0] rfl ?_
      exact hself _ _ _ _ _ hq
    · have hq := ite_t hq c13
      refine J_aload_n (pc := 88) X (j := 3) (i := 3) rfl rfl dX12_mostSayableWith_88 ?_
      refine J_iload_n (pc := 89) X (j := 1) (i := 1) rfl rfl dX12_mostSayableWith_89 ?_
      refine J_iload (pc := 90) X (j := 7) rfl dX12_mostSayableWith_90 ?_
      refine J_iload (pc := 92) X (j := 8) rfl dX12_mostSayableWith_92 ?_
      obtain ⟨h14, hc, hq⟩ := bnv_e hq
      refine J_callV (pc := 94) (as := [.inl x1, .inl x7, .inl x8]) (st := []) (st2 := []) (r1 := (none, h14)) (h2 := h14) (ky := 2) X dX12_mostSayableWith_94 ca_X10_turnTold ci_X10_turnTold cs_X10_turnTold ml_12_339 (by decide) ly7 rfl rfl (m_X10_turnTold _ _ _ _ _ _ ly7 hc) rfl rfl (Nat.le_of_ble_eq_true rfl) rfl rfl ?_
      refine J_aload_n (pc := 97) X (j := 0) (i := 0) rfl rfl dX12_mostSayableWith_97 ?_
      refine J_getF (pc := 98) X (b := 122) ly1 fl_12_50 rfl dX12_mostSayableWith_98 ?_
      refine J_aload_n (pc := 101) X (j := 3) (i := 3) rfl rfl dX12_mostSayableWith_101 ?_
      refine J_iload_n (pc := 102) X (j := 2) (i := 2) rfl rfl dX12_mostSayableWith_102 ?_
      obtain ⟨v16, h15, hc, hq⟩ := bnd_e hq
      refine J_callV (pc := 103) (as := [.inr (.inr 7), .inl x2]) (st := []) (st2 := [.inl v16]) (r1 := (some (.inl v16), h15)) (h2 := h15) (ky := 406) X dX12_mostSayableWith_103 ca_X2_collectSafe ci_X2_collectSafe cs_X2_collectSafe ml_12_271 (by decide) ly122 rfl rfl (m_X2_collectSafe _ _ _ _ ly7 hc) rfl rfl (Nat.le_of_ble_eq_true rfl) rfl rfl ?_
      obtain ⟨v18, h17, hc, hq⟩ := bnd_e hq
      refine J_callS (pc := 106) (as := [.inl v16]) (st := []) (st2 := [.inl v18]) (r1 := (some (.inl v18), h17)) (h2 := h17) (ky := 1) X dX12_mostSayableWith_106 ca_J6_bitCount_0f7a4 cz_J6_bitCount_0f7a4 ml_12_125 (by decide) (m_J6_bitCount_0f7a4 _ _ _ hc) rfl rfl (Nat.le_of_ble_eq_true rfl) rfl rfl ?_
      refine J_istore (pc := 109) X (L' := [(9, .inl v18), (0, .inr (.inr 1)), (1, .inl x1), (2, .inl x2), (3, .inr (.inr 7)), (4, .inl x4), (5, .inl x5), (6, .inl x6), (7, .inl x7), (8, .inl x8)]) (by decide) rfl dX12_mostSayableWith_109 ?_
      refine J_aload_n (pc := 111) X (j := 4) (i := 3) rfl rfl dX12_mostSayableWith_111 ?_
      refine J_iload_n (pc := 112) X (j := 2) (i := 1) rfl rfl dX12_mostSayableWith_112 ?_
      refine J_iload (pc := 113) X (j := 8) rfl dX12_mostSayableWith_113 ?_
      refine J_iload (pc := 115) X (j := 9) rfl dX12_mostSayableWith_115 ?_
      obtain ⟨h19, hc, hq⟩ := bnv_e hq
      refine J_callV (pc := 117) (as := [.inl x1, .inl x7, .inl x8]) (st := []) (st2 := []) (r1 := (none, h19)) (h2 := h19) (ky := 2) X dX12_mostSayableWith_117 ca_X10_turnTold ci_X10_turnTold cs_X10_turnTold ml_12_339 (by decide) ly7 rfl rfl (m_X10_turnTold _ _ _ _ _ _ ly7 hc) rfl rfl (Nat.le_of_ble_eq_true rfl) rfl rfl ?_
      refine J_iload (pc := 120) X (j := 0) rfl dX12_mostSayableWith_120 ?_
      refine J_iload (pc := 122) X (j := 5) rfl dX12_mostSayableWith_122 ?_
      refine J_icmp_le (pc := 124) (tgt := 138) X dX12_mostSayableWith_124 rfl (fun c20 => ?_) (fun c20 => ?_)
      · have hq := ite_t hq c20
        refine J_iload (pc := 138) X (j := 6) rfl dX12_mostSayableWith_138 ?_
        refine J_sub [1, 2, 3, 4, 5, 7, 8, 9, 0] rfl ?_
        exact tB_X12_mostSayableWith_140 X _ _ _ _ _ _ _ _ _ _ _ _ hk157 hself hq
      · have hq := ite_f hq c20
        refine J_bipush (pc := 127) X (v := 10) (by decide) dX12_mostSayableWith_127 ?_
        refine J_iload (pc := 129) X (j := 8) rfl dX12_mostSayableWith_129 ?_
        refine J_imul (pc := 131) X dX12_mostSayableWith_131 ?_
        refine J_iload (pc := 132) X (j := 9) rfl dX12_mostSayableWith_132 ?_
        refine J_iadd (pc := 134) X dX12_mostSayableWith_134 ?_
        refine J_goto (pc := 135) X (tgt := 140) dX12_mostSayableWith_135 rfl ?_
        refine J_sub [1, 2, 3, 4, 5, 7, 8, 9, 0] rfl ?_
        exact tB_X12_mostSayableWith_140 X _ _ _ _ _ _ _ _ _ _ _ _ hk157 hself hq
theorem tL_X12_mostSayableWith_67 {κ : Kx} (X : OK κ cX12_mostSayableWith 10 (some .int) "StruckWords" 407) (x1 : Int32) (x2 : Int32) (x6 : Int32) (x7 : Int32) (k157 : Int32 → Int32 → Hp → Option (Int32 × Hp)) (N : Nat) (x4 : Int32) (x5 : Int32) (x8 : Int32) (h : Hp) (q : (Int32 × Hp)) (hk157 : ∀ (x4 : Int32) (x5 : Int32) (h : Hp) (q : (Int32 × Hp)), k157 x4 x5 h = some q → J κ 157 [(0, .inr (.inr 1)), (1, .inl x1), (2, .inl x2), (3, .inr (.inr 7)), (4, .inl x4), (5, .inl x5), (6, .inl x6), (7, .inl x7)] [] h (some (.inl q.1), q.2)) (hq : itr4 (F_X12_mostSayableWith_67 x1 x2 x6 x7 k157) N x4 x5 x8 h = some q) : J κ 67 [(0, .inr (.inr 1)), (1, .inl x1), (2, .inl x2), (3, .inr (.inr 7)), (4, .inl x4), (5, .inl x5), (6, .inl x6), (7, .inl x7), (8, .inl x8)] [] h (some (.inl q.1), q.2) :=
  itr4_ind (fun self hs x4 x5 x8 h q hq => tF_X12_mostSayableWith_67 X x1 x2 x6 x7 k157 self x4 x5 x8 h q hk157 hs hq) N x4 x5 x8 h q hq
theorem tF_X12_mostSayableWith_57 {κ : Kx} (X : OK κ cX12_mostSayableWith 10 (some .int) "StruckWords" 407) (x1 : Int32) (x2 : Int32) (x6 : Int32) (k163 : Int32 → Hp → Option (Int32 × Hp)) (self : Int32 → Int32 → Int32 → Hp → Option (Int32 × Hp)) (x4 : Int32) (x5 : Int32) (x7 : Int32) (h : Hp) (q : (Int32 × Hp)) (hk163 : ∀ (x5 : Int32) (h : Hp) (q : (Int32 × Hp)), k163 x5 h = some q → J κ 163 [(5, .inl x5)] [] h (some (.inl q.1), q.2)) (hself : ∀ (x4 : Int32) (x5 : Int32) (x7 : Int32) (h : Hp) (q : (Int32 × Hp)), self x4 x5 x7 h = some q → J κ 57 [(0, .inr (.inr 1)), (1, .inl x1), (2, .inl x2), (3, .inr (.inr 7)), (4, .inl x4), (5, .inl x5), (6, .inl x6), (7, .inl x7)] [] h (some (.inl q.1), q.2)) (hq : F_X12_mostSayableWith_57 x1 x2 x6 k163 self x4 x5 x7 h = some q) : J κ 57 [(0, .inr (.inr 1)), (1, .inl x1), (2, .inl x2), (3, .inr (.inr 7)), (4, .inl x4), (5, .inl x5), (6, .inl x6), (7, .inl x7)] [] h (some (.inl q.1), q.2) := by
  delta F_X12_mostSayableWith_57 at hq
  refine J_iload (pc := 57) X (j := 7) rfl dX12_mostSayableWith_57 ?_
  refine J_iload (pc := 59) X (j := 6) rfl dX12_mostSayableWith_59 ?_
  refine J_icmp_ge (pc := 61) (tgt := 163) X dX12_mostSayableWith_61 rfl (fun c9 => ?_) (fun c9 => ?_)
  · have hq := ite_t hq c9
    refine J_sub [5] rfl ?_
    exact hk163 _ _ _ hq
  · have hq := ite_f hq c9
    refine J_iconst (pc := 64) X (v := 0) (by decide) dX12_mostSayableWith_64 ?_
    refine J_istore (pc := 65) X (L' := [(8, .inl 0), (0, .inr (.inr 1)), (1, .inl x1), (2, .inl x2), (3, .inr (.inr 7)), (4, .inl x4), (5, .inl x5), (6, .inl x6), (7, .inl x7)]) (by decide) rfl dX12_mostSayableWith_65 ?_
    refine J_sub [1, 2, 3, 4, 5, 6, 7, 8, 0] rfl ?_
    refine tL_X12_mostSayableWith_67 X _ _ _ _ _ N0 _ _ _ _ _ ?_ hq
    · intro v23 v24 h22 q hq
      refine J_iinc (pc := 157) X (j := 7) (v := 1) (L' := [(7, .inl (x7 + 1)), (0, .inr (.inr 1)), (1, .inl x1), (2, .inl x2), (3, .inr (.inr 7)), (4, .inl v23), (5, .inl v24), (6, .inl x6)]) rfl (by decide) (by decide) rfl dX12_mostSayableWith_157 ?_
      refine J_goto (pc := 160) X (tgt := 57) dX12_mostSayableWith_160 rfl ?_
      refine J_sub [1, 2, 3, 4, 5, 6, 7, 0] rfl ?_
      exact hself _ _ _ _ _ hq
theorem tL_X12_mostSayableWith_57 {κ : Kx} (X : OK κ cX12_mostSayableWith 10 (some .int) "StruckWords" 407) (x1 : Int32) (x2 : Int32) (x6 : Int32) (k163 : Int32 → Hp → Option (Int32 × Hp)) (N : Nat) (x4 : Int32) (x5 : Int32) (x7 : Int32) (h : Hp) (q : (Int32 × Hp)) (hk163 : ∀ (x5 : Int32) (h : Hp) (q : (Int32 × Hp)), k163 x5 h = some q → J κ 163 [(5, .inl x5)] [] h (some (.inl q.1), q.2)) (hq : itr4 (F_X12_mostSayableWith_57 x1 x2 x6 k163) N x4 x5 x7 h = some q) : J κ 57 [(0, .inr (.inr 1)), (1, .inl x1), (2, .inl x2), (3, .inr (.inr 7)), (4, .inl x4), (5, .inl x5), (6, .inl x6), (7, .inl x7)] [] h (some (.inl q.1), q.2) :=
  itr4_ind (fun self hs x4 x5 x7 h q hq => tF_X12_mostSayableWith_57 X x1 x2 x6 k163 self x4 x5 x7 h q hk163 hs hq) N x4 x5 x7 h q hq
theorem tf_X12_mostSayableWith {κ : Kx} (X : OK κ cX12_mostSayableWith 10 (some .int) "StruckWords" 407) (x1 : Int32) (x2 : Int32) (h : Hp) (q : (Int32 × Hp)) (hq : f_X12_mostSayableWith x1 x2 h = some q) : J κ 0 [(0, .inr (.inr 1)), (1, .inl x1), (2, .inl x2)] [] h (some (.inl q.1), q.2) := by
  delta f_X12_mostSayableWith at hq
  refine J_iload_n (pc := 0) X (j := 2) (i := 2) rfl rfl dX12_mostSayableWith_0 ?_
  refine J_iconst (pc := 1) X (v := 1) (by decide) dX12_mostSayableWith_1 ?_
  refine J_icmp_lt (pc := 2) (tgt := 10) X dX12_mostSayableWith_2 rfl (fun c1 => ?_) (fun c1 => ?_)
  · have hq := ite_t hq c1
    refine J_iconst (pc := 10) X (v := (-1)) (by decide) dX12_mostSayableWith_10 ?_
    obtain rfl := Option.some.inj hq
    exact J_iret (pc := 11) X dX12_mostSayableWith_11
  · have hq := ite_f hq c1
    refine J_iload_n (pc := 5) X (j := 2) (i := 2) rfl rfl dX12_mostSayableWith_5 ?_
    refine J_iconst (pc := 6) X (v := 4) (by decide) dX12_mostSayableWith_6 ?_
    refine J_icmp_le (pc := 7) (tgt := 12) X dX12_mostSayableWith_7 rfl (fun c2 => ?_) (fun c2 => ?_)
    · have hq := ite_t hq c2
      refine J_aload_n (pc := 12) X (j := 0) (i := 0) rfl rfl dX12_mostSayableWith_12 ?_
      refine J_getF (pc := 13) X (b := 6) ly1 fl_12_28 rfl dX12_mostSayableWith_13 ?_
      refine J_getF (pc := 16) X (b := 7) ly6 fl_12_95 rfl dX12_mostSayableWith_16 ?_
      refine J_astore_n (pc := 19) X (L' := [(3, .inr (.inr 7)), (0, .inr (.inr 1)), (1, .inl x1), (2, .inl x2)]) (i := 3) rfl (by decide) rfl dX12_mostSayableWith_19 ?_
      refine J_aload_n (pc := 20) X (j := 1) (i := 0) rfl rfl dX12_mostSayableWith_20 ?_
      refine J_getF (pc := 21) X (b := 122) ly1 fl_12_50 rfl dX12_mostSayableWith_21 ?_
      refine J_aload_n (pc := 24) X (j := 0) (i := 3) rfl rfl dX12_mostSayableWith_24 ?_
      refine J_iload_n (pc := 25) X (j := 3) (i := 2) rfl rfl dX12_mostSayableWith_25 ?_
      obtain ⟨v4, h3, hc, hq⟩ := bnd_e hq
      refine J_callV (pc := 26) (as := [.inr (.inr 7), .inl x2]) (st := []) (st2 := [.inl v4]) (r1 := (some (.inl v4), h3)) (h2 := h3) (ky := 406) X dX12_mostSayableWith_26 ca_X2_collectSafe ci_X2_collectSafe cs_X2_collectSafe ml_12_271 (by decide) ly122 rfl rfl (m_X2_collectSafe _ _ _ _ ly7 hc) rfl rfl (Nat.le_of_ble_eq_true rfl) rfl rfl ?_
      obtain ⟨v6, h5, hc, hq⟩ := bnd_e hq
      refine J_callS (pc := 29) (as := [.inl v4]) (st := []) (st2 := [.inl v6]) (r1 := (some (.inl v6), h5)) (h2 := h5) (ky := 1) X dX12_mostSayableWith_29 ca_J6_bitCount_0f7a4 cz_J6_bitCount_0f7a4 ml_12_125 (by decide) (m_J6_bitCount_0f7a4 _ _ _ hc) rfl rfl (Nat.le_of_ble_eq_true rfl) rfl rfl ?_
      refine J_istore (pc := 32) X (L' := [(4, .inl v6), (3, .inr (.inr 7)), (0, .inr (.inr 1)), (1, .inl x1), (2, .inl x2)]) (by decide) rfl dX12_mostSayableWith_32 ?_
      refine J_iconst (pc := 34) X (v := (-1)) (by decide) dX12_mostSayableWith_34 ?_
      refine J_istore (pc := 35) X (L' := [(5, .inl (-1)), (4, .inl v6), (3, .inr (.inr 7)), (0, .inr (.inr 1)), (1, .inl x1), (2, .inl x2)]) (by decide) rfl dX12_mostSayableWith_35 ?_
      refine J_iload_n (pc := 37) X (j := 4) (i := 1) rfl rfl dX12_mostSayableWith_37 ?_
      refine J_if_eq (pc := 38) (tgt := 48) X dX12_mostSayableWith_38 rfl (fun c7 => ?_) (fun c7 => ?_)
      · have hq := ite_t hq c7
        refine J_aload_n (pc := 48) X (j := 2) (i := 3) rfl rfl dX12_mostSayableWith_48 ?_
        refine J_getI (pc := 49) X ly7 fl_12_159 dX12_mostSayableWith_49 ?_
        refine J_ltI hq (fun v8 hq => ?_)
        refine J_istore (pc := 52) X (L' := [(6, .inl v8), (5, .inl (-1)), (4, .inl v6), (3, .inr (.inr 7)), (0, .inr (.inr 1)), (1, .inl x1), (2, .inl x2)]) (by decide) rfl dX12_mostSayableWith_52 ?_
        refine J_iconst (pc := 54) X (v := 0) (by decide) dX12_mostSayableWith_54 ?_
        refine J_istore (pc := 55) X (L' := [(7, .inl 0), (6, .inl v8), (5, .inl (-1)), (4, .inl v6), (3, .inr (.inr 7)), (0, .inr (.inr 1)), (1, .inl x1), (2, .inl x2)]) (by decide) rfl dX12_mostSayableWith_55 ?_
        refine J_sub [5, 6, 7, 4, 3, 2, 1, 0] rfl ?_
        refine tL_X12_mostSayableWith_57 X _ _ _ _ N0 _ _ _ _ _ ?_ hq
        · intro v26 h25 q hq
          refine J_iload (pc := 163) X (j := 0) rfl dX12_mostSayableWith_163 ?_
          obtain rfl := Option.some.inj hq
          exact J_iret (pc := 165) X dX12_mostSayableWith_165
      · have hq := ite_f hq c7
        refine J_aload_n (pc := 41) X (j := 2) (i := 3) rfl rfl dX12_mostSayableWith_41 ?_
        refine J_getI (pc := 42) X ly7 fl_12_329 dX12_mostSayableWith_42 ?_
        refine J_goto (pc := 45) X (tgt := 52) dX12_mostSayableWith_45 rfl ?_
        refine J_ltI hq (fun v27 hq => ?_)
        refine J_istore (pc := 52) X (L' := [(6, .inl v27), (5, .inl (-1)), (4, .inl v6), (3, .inr (.inr 7)), (0, .inr (.inr 1)), (1, .inl x1), (2, .inl x2)]) (by decide) rfl dX12_mostSayableWith_52 ?_
        refine J_iconst (pc := 54) X (v := 0) (by decide) dX12_mostSayableWith_54 ?_
        refine J_istore (pc := 55) X (L' := [(7, .inl 0), (6, .inl v27), (5, .inl (-1)), (4, .inl v6), (3, .inr (.inr 7)), (0, .inr (.inr 1)), (1, .inl x1), (2, .inl x2)]) (by decide) rfl dX12_mostSayableWith_55 ?_
        refine J_sub [5, 6, 7, 4, 3, 2, 1, 0] rfl ?_
        refine tL_X12_mostSayableWith_57 X _ _ _ _ N0 _ _ _ _ _ ?_ hq
        · intro v29 h28 q hq
          refine J_iload (pc := 163) X (j := 0) rfl dX12_mostSayableWith_163 ?_
          obtain rfl := Option.some.inj hq
          exact J_iret (pc := 165) X dX12_mostSayableWith_165
    · have hq := ite_f hq c2
      refine J_iconst (pc := 10) X (v := (-1)) (by decide) dX12_mostSayableWith_10 ?_
      obtain rfl := Option.some.inj hq
      exact J_iret (pc := 11) X dX12_mostSayableWith_11
theorem m_X12_mostSayableWith (x1 : Int32) (x2 : Int32) (h : Hp) (q : (Int32 × Hp)) (hq : f_X12_mostSayableWith x1 x2 h = some q) : ∀ l w, CT l w yX12_mostSayableWith cX12_mostSayableWith 10 (some .int) 407 [.inr (.inr 1), .inl x1, .inl x2] h (some (.inl q.1), q.2) :=
  CT_of (L0 := [(0, .inr (.inr 1)), (1, .inl x1), (2, .inl x2)]) (by decide) rfl (Nat.le_of_ble_eq_true rfl) (fun κ X => tf_X12_mostSayableWith X x1 x2 h q  hq)
theorem tf_X12_link {κ : Kx} (X : OK κ cX12_link 2 (some .int) "StruckWords" 408) (x1 : Int32) (h : Hp) (q : (Int32 × Hp)) (hq : f_X12_link x1 h = some q) : J κ 0 [(0, .inr (.inr 1)), (1, .inl x1)] [] h (some (.inl q.1), q.2) := by
  delta f_X12_link at hq
  refine J_aload_n (pc := 0) X (j := 0) (i := 0) rfl rfl dX12_link_0 ?_
  refine J_iconst (pc := 1) X (v := 1) (by decide) dX12_link_1 ?_
  refine J_iload_n (pc := 2) X (j := 1) (i := 1) rfl rfl dX12_link_2 ?_
  obtain ⟨v2, h1, hc, hq⟩ := bnd_e hq
  refine J_callV (pc := 3) (as := [.inl 1, .inl x1]) (st := []) (st2 := [.inl v2]) (r1 := (some (.inl v2), h1)) (h2 := h1) (ky := 407) X dX12_link_3 ca_X12_mostSayableWith ci_X12_mostSayableWith cs_X12_mostSayableWith ml_12_274 (by decide) ly1 rfl rfl (m_X12_mostSayableWith _ _ _ _ hc) rfl rfl (Nat.le_of_ble_eq_true rfl) rfl rfl ?_
  obtain rfl := Option.some.inj hq
  exact J_iret (pc := 6) X dX12_link_6
theorem m_X12_link (x1 : Int32) (h : Hp) (q : (Int32 × Hp)) (hq : f_X12_link x1 h = some q) : ∀ l w, CT l w yX12_link cX12_link 2 (some .int) 408 [.inr (.inr 1), .inl x1] h (some (.inl q.1), q.2) :=
  CT_of (L0 := [(0, .inr (.inr 1)), (1, .inl x1)]) (by decide) rfl (Nat.le_of_ble_eq_true rfl) (fun κ X => tf_X12_link X x1 h q  hq)
theorem tf_X12_lend {κ : Kx} (X : OK κ cX12_lend 2 (some .int) "StruckWords" 408) (x1 : Int32) (h : Hp) (q : (Int32 × Hp)) (hq : f_X12_lend x1 h = some q) : J κ 0 [(0, .inr (.inr 1)), (1, .inl x1)] [] h (some (.inl q.1), q.2) := by
  delta f_X12_lend at hq
  refine J_aload_n (pc := 0) X (j := 0) (i := 0) rfl rfl dX12_lend_0 ?_
  refine J_iconst (pc := 1) X (v := 0) (by decide) dX12_lend_1 ?_
  refine J_iload_n (pc := 2) X (j := 1) (i := 1) rfl rfl dX12_lend_2 ?_
  obtain ⟨v2, h1, hc, hq⟩ := bnd_e hq
  refine J_callV (pc := 3) (as := [.inl 0, .inl x1]) (st := []) (st2 := [.inl v2]) (r1 := (some (.inl v2), h1)) (h2 := h1) (ky := 407) X dX12_lend_3 ca_X12_mostSayableWith ci_X12_mostSayableWith cs_X12_mostSayableWith ml_12_274 (by decide) ly1 rfl rfl (m_X12_mostSayableWith _ _ _ _ hc) rfl rfl (Nat.le_of_ble_eq_true rfl) rfl rfl ?_
  obtain rfl := Option.some.inj hq
  exact J_iret (pc := 6) X dX12_lend_6
theorem m_X12_lend (x1 : Int32) (h : Hp) (q : (Int32 × Hp)) (hq : f_X12_lend x1 h = some q) : ∀ l w, CT l w yX12_lend cX12_lend 2 (some .int) 408 [.inr (.inr 1), .inl x1] h (some (.inl q.1), q.2) :=
  CT_of (L0 := [(0, .inr (.inr 1)), (1, .inl x1)]) (by decide) rfl (Nat.le_of_ble_eq_true rfl) (fun κ X => tf_X12_lend X x1 h q  hq)
theorem tB_X12_other_25 {κ : Kx} (X : OK κ cX12_other 6 (some .int) "StruckWords" 408) (x1 : Int32) (x2 : Int32) (x3 : Int32) (x4 : Int32) (t0 : Int32) (h : Hp) (q : (Int32 × Hp)) (hq : B_X12_other_25 x1 x2 x3 x4 t0 h = some q) : J κ 25 [(0, .inr (.inr 1)), (1, .inl x1), (2, .inl x2), (3, .inl x3), (4, .inl x4)] [.inl t0] h (some (.inl q.1), q.2) := by
  delta B_X12_other_25 at hq
  refine J_istore (pc := 25) X (L' := [(5, .inl t0), (0, .inr (.inr 1)), (1, .inl x1), (2, .inl x2), (3, .inl x3), (4, .inl x4)]) (by decide) rfl dX12_other_25 ?_
  refine J_iload (pc := 27) X (j := 0) rfl dX12_other_27 ?_
  refine J_if_eq (pc := 29) (tgt := 52) X dX12_other_29 rfl (fun c2 => ?_) (fun c2 => ?_)
  · have hq := ite_t hq c2
    refine J_bipush (pc := 52) X (v := (-2)) (by decide) dX12_other_52 ?_
    obtain rfl := Option.some.inj hq
    exact J_iret (pc := 54) X dX12_other_54
  · have hq := ite_f hq c2
    refine J_iload_n (pc := 32) X (j := 4) (i := 3) rfl rfl dX12_other_32 ?_
    obtain ⟨v4, h3, hc, hq⟩ := bnd_e hq
    refine J_callS (pc := 33) (as := [.inl x3]) (st := []) (st2 := [.inl v4]) (r1 := (some (.inl v4), h3)) (h2 := h3) (ky := 1) X dX12_other_33 ca_X12_isMeaning cz_X12_isMeaning ml_12_131 (by decide) (m_X12_isMeaning _ _ _ hc) rfl rfl (Nat.le_of_ble_eq_true rfl) rfl rfl ?_
    refine J_if_eq (pc := 36) (tgt := 52) X dX12_other_36 rfl (fun c5 => ?_) (fun c5 => ?_)
    · have hq := ite_t hq c5
      refine J_bipush (pc := 52) X (v := (-2)) (by decide) dX12_other_52 ?_
      obtain rfl := Option.some.inj hq
      exact J_iret (pc := 54) X dX12_other_54
    · have hq := ite_f hq c5
      refine J_iload (pc := 39) X (j := 5) rfl dX12_other_39 ?_
      refine J_iconst (pc := 41) X (v := 1) (by decide) dX12_other_41 ?_
      refine J_icmp_lt (pc := 42) (tgt := 52) X dX12_other_42 rfl (fun c6 => ?_) (fun c6 => ?_)
      · have hq := ite_t hq c6
        refine J_bipush (pc := 52) X (v := (-2)) (by decide) dX12_other_52 ?_
        obtain rfl := Option.some.inj hq
        exact J_iret (pc := 54) X dX12_other_54
      · have hq := ite_f hq c6
        refine J_iload (pc := 45) X (j := 5) rfl dX12_other_45 ?_
        refine J_bipush (pc := 47) X (v := 6) (by decide) dX12_other_47 ?_
        refine J_icmp_le (pc := 49) (tgt := 55) X dX12_other_49 rfl (fun c7 => ?_) (fun c7 => ?_)
        · have hq := ite_t hq c7
          refine J_aload_n (pc := 55) X (j := 1) (i := 0) rfl rfl dX12_other_55 ?_
          refine J_getF (pc := 56) X (b := 122) ly1 fl_12_50 rfl dX12_other_56 ?_
          refine J_bipush (pc := 59) X (v := 9) (by decide) dX12_other_59 ?_
          refine J_iload_n (pc := 61) X (j := 4) (i := 3) rfl rfl dX12_other_61 ?_
          obtain ⟨h8, hc, hq⟩ := bnv_e hq
          refine J_callV (pc := 62) (as := [.inl 9, .inl x3]) (st := []) (st2 := []) (r1 := (none, h8)) (h2 := h8) (ky := 2) X dX12_other_62 ca_X2_wantByAll ci_X2_wantByAll cs_X2_wantByAll ml_12_263 (by decide) ly122 rfl rfl (m_X2_wantByAll _ _ _ _ hc) rfl rfl (Nat.le_of_ble_eq_true rfl) rfl rfl ?_
          refine J_aload_n (pc := 65) X (j := 1) (i := 0) rfl rfl dX12_other_65 ?_
          refine J_getF (pc := 66) X (b := 122) ly1 fl_12_50 rfl dX12_other_66 ?_
          refine J_aload_n (pc := 69) X (j := 1) (i := 0) rfl rfl dX12_other_69 ?_
          refine J_getF (pc := 70) X (b := 6) ly1 fl_12_28 rfl dX12_other_70 ?_
          refine J_getF (pc := 73) X (b := 7) ly6 fl_12_95 rfl dX12_other_73 ?_
          refine J_iload_n (pc := 76) X (j := 2) (i := 1) rfl rfl dX12_other_76 ?_
          refine J_iload_n (pc := 77) X (j := 3) (i := 2) rfl rfl dX12_other_77 ?_
          refine J_iload (pc := 78) X (j := 5) rfl dX12_other_78 ?_
          obtain ⟨v10, h9, hc, hq⟩ := bnd_e hq
          refine J_callV (pc := 80) (as := [.inr (.inr 7), .inl x1, .inl x2, .inl x4]) (st := []) (st2 := [.inl v10]) (r1 := (some (.inl v10), h9)) (h2 := h9) (ky := 407) X dX12_other_80 ca_X2_seekShortestBy ci_X2_seekShortestBy cs_X2_seekShortestBy ml_12_278 (by decide) ly122 rfl rfl (m_X2_seekShortestBy _ _ _ _ _ _ ly7 hc) rfl rfl (Nat.le_of_ble_eq_true rfl) rfl rfl ?_
          obtain rfl := Option.some.inj hq
          exact J_iret (pc := 83) X dX12_other_83
        · have hq := ite_f hq c7
          refine J_bipush (pc := 52) X (v := (-2)) (by decide) dX12_other_52 ?_
          obtain rfl := Option.some.inj hq
          exact J_iret (pc := 54) X dX12_other_54
theorem tf_X12_other {κ : Kx} (X : OK κ cX12_other 6 (some .int) "StruckWords" 408) (x1 : Int32) (x2 : Int32) (x3 : Int32) (x4 : Int32) (h : Hp) (q : (Int32 × Hp)) (hq : f_X12_other x1 x2 x3 x4 h = some q) : J κ 0 [(0, .inr (.inr 1)), (1, .inl x1), (2, .inl x2), (3, .inl x3), (4, .inl x4)] [] h (some (.inl q.1), q.2) := by
  delta f_X12_other at hq
  refine J_iload_n (pc := 0) X (j := 1) (i := 1) rfl rfl dX12_other_0 ?_
  refine J_iconst (pc := 1) X (v := 2) (by decide) dX12_other_1 ?_
  refine J_icmp_lt (pc := 2) (tgt := 24) X dX12_other_2 rfl (fun c1 => ?_) (fun c1 => ?_)
  · have hq := ite_t hq c1
    refine J_iconst (pc := 24) X (v := 0) (by decide) dX12_other_24 ?_
    exact tB_X12_other_25 X _ _ _ _ _ _ _ hq
  · have hq := ite_f hq c1
    refine J_iload_n (pc := 5) X (j := 1) (i := 1) rfl rfl dX12_other_5 ?_
    refine J_iconst (pc := 6) X (v := 5) (by decide) dX12_other_6 ?_
    refine J_icmp_gt (pc := 7) (tgt := 24) X dX12_other_7 rfl (fun c11 => ?_) (fun c11 => ?_)
    · have hq := ite_t hq c11
      refine J_iconst (pc := 24) X (v := 0) (by decide) dX12_other_24 ?_
      exact tB_X12_other_25 X _ _ _ _ _ _ _ hq
    · have hq := ite_f hq c11
      refine J_iload_n (pc := 10) X (j := 2) (i := 2) rfl rfl dX12_other_10 ?_
      refine J_iconst (pc := 11) X (v := 1) (by decide) dX12_other_11 ?_
      refine J_icmp_lt (pc := 12) (tgt := 24) X dX12_other_12 rfl (fun c12 => ?_) (fun c12 => ?_)
      · have hq := ite_t hq c12
        refine J_iconst (pc := 24) X (v := 0) (by decide) dX12_other_24 ?_
        exact tB_X12_other_25 X _ _ _ _ _ _ _ hq
      · have hq := ite_f hq c12
        refine J_iload_n (pc := 15) X (j := 2) (i := 2) rfl rfl dX12_other_15 ?_
        refine J_iload_n (pc := 16) X (j := 1) (i := 1) rfl rfl dX12_other_16 ?_
        refine J_icmp_ge (pc := 17) (tgt := 24) X dX12_other_17 rfl (fun c13 => ?_) (fun c13 => ?_)
        · have hq := ite_t hq c13
          refine J_iconst (pc := 24) X (v := 0) (by decide) dX12_other_24 ?_
          exact tB_X12_other_25 X _ _ _ _ _ _ _ hq
        · have hq := ite_f hq c13
          refine J_iconst (pc := 20) X (v := 1) (by decide) dX12_other_20 ?_
          refine J_goto (pc := 21) X (tgt := 25) dX12_other_21 rfl ?_
          exact tB_X12_other_25 X _ _ _ _ _ _ _ hq
theorem m_X12_other (x1 : Int32) (x2 : Int32) (x3 : Int32) (x4 : Int32) (h : Hp) (q : (Int32 × Hp)) (hq : f_X12_other x1 x2 x3 x4 h = some q) : ∀ l w, CT l w yX12_other cX12_other 6 (some .int) 408 [.inr (.inr 1), .inl x1, .inl x2, .inl x3, .inl x4] h (some (.inl q.1), q.2) :=
  CT_of (L0 := [(0, .inr (.inr 1)), (1, .inl x1), (2, .inl x2), (3, .inl x3), (4, .inl x4)]) (by decide) rfl (Nat.le_of_ble_eq_true rfl) (fun κ X => tf_X12_other X x1 x2 x3 x4 h q  hq)
theorem tf_X12_mend {κ : Kx} (X : OK κ cX12_mend 2 (some .int) "StruckWords" 407) (h : Hp) (q : (Int32 × Hp)) (hq : f_X12_mend h = some q) : J κ 0 [(0, .inr (.inr 1))] [] h (some (.inl q.1), q.2) := by
  delta f_X12_mend at hq
  refine J_aload_n (pc := 0) X (j := 0) (i := 0) rfl rfl dX12_mend_0 ?_
  refine J_getF (pc := 1) X (b := 6) ly1 fl_12_28 rfl dX12_mend_1 ?_
  refine J_getF (pc := 4) X (b := 18) ly6 fl_12_149 rfl dX12_mend_4 ?_
  refine J_getI (pc := 7) X ly18 fl_12_74 dX12_mend_7 ?_
  refine J_iconst (pc := 10) X (v := 1) (by decide) dX12_mend_10 ?_
  refine J_icmp_lt (pc := 11) (tgt := 29) X dX12_mend_11 rfl (fun c1 => ?_) (fun c1 => ?_)
  · have hq := ite_t hq c1
    refine J_bipush (pc := 29) X (v := (-2)) (by decide) dX12_mend_29 ?_
    obtain rfl := Option.some.inj hq
    exact J_iret (pc := 31) X dX12_mend_31
  · have hq := ite_f hq c1
    refine J_aload_n (pc := 14) X (j := 0) (i := 0) rfl rfl dX12_mend_14 ?_
    refine J_getF (pc := 15) X (b := 6) ly1 fl_12_28 rfl dX12_mend_15 ?_
    refine J_getF (pc := 18) X (b := 18) ly6 fl_12_149 rfl dX12_mend_18 ?_
    refine J_getI (pc := 21) X ly18 fl_12_74 dX12_mend_21 ?_
    refine J_bipush (pc := 24) X (v := 10) (by decide) dX12_mend_24 ?_
    refine J_icmp_le (pc := 26) (tgt := 32) X dX12_mend_26 rfl (fun c2 => ?_) (fun c2 => ?_)
    · have hq := ite_t hq c2
      refine J_aload_n (pc := 32) X (j := 0) (i := 0) rfl rfl dX12_mend_32 ?_
      refine J_getF (pc := 33) X (b := 122) ly1 fl_12_50 rfl dX12_mend_33 ?_
      refine J_aload_n (pc := 36) X (j := 0) (i := 0) rfl rfl dX12_mend_36 ?_
      refine J_getF (pc := 37) X (b := 6) ly1 fl_12_28 rfl dX12_mend_37 ?_
      refine J_getF (pc := 40) X (b := 7) ly6 fl_12_95 rfl dX12_mend_40 ?_
      refine J_aload_n (pc := 43) X (j := 0) (i := 0) rfl rfl dX12_mend_43 ?_
      refine J_getF (pc := 44) X (b := 6) ly1 fl_12_28 rfl dX12_mend_44 ?_
      refine J_getF (pc := 47) X (b := 18) ly6 fl_12_149 rfl dX12_mend_47 ?_
      obtain ⟨v4, h3, hc, hq⟩ := bnd_e hq
      refine J_callV (pc := 50) (as := [.inr (.inr 7), .inr (.inr 18)]) (st := []) (st2 := [.inl v4]) (r1 := (some (.inl v4), h3)) (h2 := h3) (ky := 406) X dX12_mend_50 ca_X2_seekMended ci_X2_seekMended cs_X2_seekMended ml_12_282 (by decide) ly122 rfl rfl (m_X2_seekMended _ _ _ _ ly7 ly18 hc) rfl rfl (Nat.le_of_ble_eq_true rfl) rfl rfl ?_
      refine J_istore_n (pc := 53) X (L' := [(1, .inl v4), (0, .inr (.inr 1))]) (i := 1) rfl (by decide) rfl dX12_mend_53 ?_
      refine J_iload_n (pc := 54) X (j := 0) (i := 1) rfl rfl dX12_mend_54 ?_
      refine J_if_lt (pc := 55) (tgt := 72) X dX12_mend_55 rfl (fun c5 => ?_) (fun c5 => ?_)
      · have hq := ite_t hq c5
        refine J_iload_n (pc := 72) X (j := 0) (i := 1) rfl rfl dX12_mend_72 ?_
        obtain rfl := Option.some.inj hq
        exact J_iret (pc := 73) X dX12_mend_73
      · have hq := ite_f hq c5
        refine J_aload_n (pc := 58) X (j := 1) (i := 0) rfl rfl dX12_mend_58 ?_
        refine J_getF (pc := 59) X (b := 140) ly1 fl_12_61 rfl dX12_mend_59 ?_
        refine J_aload_n (pc := 62) X (j := 1) (i := 0) rfl rfl dX12_mend_62 ?_
        refine J_getF (pc := 63) X (b := 122) ly1 fl_12_50 rfl dX12_mend_63 ?_
        obtain ⟨r7, h6, hc, hq⟩ := bnd_e hq
        refine J_callV (pc := 66) (as := []) (st := [.inr (.inr 140)]) (st2 := [.inr (.inr r7), .inr (.inr 140)]) (r1 := (some (.inr (.inr r7)), h6)) (h2 := h6) (ky := 1) X dX12_mend_66 ca_X2_foundRow ci_X2_foundRow cs_X2_foundRow ml_12_285 (by decide) ly122 rfl rfl (m_X2_foundRow _ _ hc) rfl rfl (Nat.le_of_ble_eq_true rfl) rfl rfl ?_
        obtain ⟨g8, hq⟩ := gd hq
        obtain ⟨h9, hc, hq⟩ := bnv_e hq
        refine J_callV (pc := 69) (as := [.inr (.inr r7)]) (st := []) (st2 := []) (r1 := (none, h9)) (h2 := h9) (ky := 3) X dX12_mend_69 ca_X7_copyFrom ci_X7_copyFrom cs_X7_copyFrom ml_12_152 (by decide) ly140 rfl rfl (m_X7_copyFrom _ _ _ _ ly140 (isO_lay g8) hc) rfl rfl (Nat.le_of_ble_eq_true rfl) rfl rfl ?_
        refine J_iload_n (pc := 72) X (j := 0) (i := 1) rfl rfl dX12_mend_72 ?_
        obtain rfl := Option.some.inj hq
        exact J_iret (pc := 73) X dX12_mend_73
    · have hq := ite_f hq c2
      refine J_bipush (pc := 29) X (v := (-2)) (by decide) dX12_mend_29 ?_
      obtain rfl := Option.some.inj hq
      exact J_iret (pc := 31) X dX12_mend_31
theorem m_X12_mend (h : Hp) (q : (Int32 × Hp)) (hq : f_X12_mend  h = some q) : ∀ l w, CT l w yX12_mend cX12_mend 2 (some .int) 407 [.inr (.inr 1)] h (some (.inl q.1), q.2) :=
  CT_of (L0 := [(0, .inr (.inr 1))]) (by decide) rfl (Nat.le_of_ble_eq_true rfl) (fun κ X => tf_X12_mend X  h q  hq)
theorem tf_X12_torn {κ : Kx} (X : OK κ cX12_torn 4 (some .long) "StruckWords" 6) (x1 : Int32) (x2 : Int32) (h : Hp) (q : (Int64 × Hp)) (hq : f_X12_torn x1 x2 h = some q) : J κ 0 [(0, .inr (.inr 1)), (1, .inl x1), (2, .inl x2)] [] h (some (.inr (.inl q.1)), q.2) := by
  delta f_X12_torn at hq
  refine J_aload_n (pc := 0) X (j := 0) (i := 0) rfl rfl dX12_torn_0 ?_
  refine J_bipush (pc := 1) X (v := 12) (by decide) dX12_torn_1 ?_
  obtain ⟨v2, h1, hc, hq⟩ := bnd_e hq
  refine J_callV (pc := 3) (as := [.inl 12]) (st := []) (st2 := [.inl v2]) (r1 := (some (.inl v2), h1)) (h2 := h1) (ky := 2) X dX12_torn_3 ca_X12_rowFromTape ci_X12_rowFromTape cs_X12_rowFromTape ml_12_156 (by decide) ly1 rfl rfl (m_X12_rowFromTape _ _ _ hc) rfl rfl (Nat.le_of_ble_eq_true rfl) rfl rfl ?_
  refine J_istore_n (pc := 6) X (L' := [(3, .inl v2), (0, .inr (.inr 1)), (1, .inl x1), (2, .inl x2)]) (i := 3) rfl (by decide) rfl dX12_torn_6 ?_
  refine J_iload_n (pc := 7) X (j := 0) (i := 3) rfl rfl dX12_torn_7 ?_
  refine J_if_eq (pc := 8) (tgt := 30) X dX12_torn_8 rfl (fun c3 => ?_) (fun c3 => ?_)
  · have hq := ite_t hq c3
    refine J_ldc2 (pc := 30) X cl_12_194 dX12_torn_30 ?_
    obtain rfl := Option.some.inj hq
    exact J_lret (pc := 33) X dX12_torn_33
  · have hq := ite_f hq c3
    refine J_aload_n (pc := 11) X (j := 1) (i := 0) rfl rfl dX12_torn_11 ?_
    refine J_iload_n (pc := 12) X (j := 2) (i := 1) rfl rfl dX12_torn_12 ?_
    obtain ⟨v5, h4, hc, hq⟩ := bnd_e hq
    refine J_callV (pc := 13) (as := [.inl x1]) (st := []) (st2 := [.inl v5]) (r1 := (some (.inl v5), h4)) (h2 := h4) (ky := 1) X dX12_torn_13 ca_X12_isBeginning ci_X12_isBeginning cs_X12_isBeginning ml_12_223 (by decide) ly1 rfl rfl (m_X12_isBeginning _ _ _ hc) rfl rfl (Nat.le_of_ble_eq_true rfl) rfl rfl ?_
    refine J_if_eq (pc := 16) (tgt := 30) X dX12_torn_16 rfl (fun c6 => ?_) (fun c6 => ?_)
    · have hq := ite_t hq c6
      refine J_ldc2 (pc := 30) X cl_12_194 dX12_torn_30 ?_
      obtain rfl := Option.some.inj hq
      exact J_lret (pc := 33) X dX12_torn_33
    · have hq := ite_f hq c6
      refine J_iload_n (pc := 19) X (j := 3) (i := 2) rfl rfl dX12_torn_19 ?_
      refine J_iconst (pc := 20) X (v := 1) (by decide) dX12_torn_20 ?_
      refine J_icmp_lt (pc := 21) (tgt := 30) X dX12_torn_21 rfl (fun c7 => ?_) (fun c7 => ?_)
      · have hq := ite_t hq c7
        refine J_ldc2 (pc := 30) X cl_12_194 dX12_torn_30 ?_
        obtain rfl := Option.some.inj hq
        exact J_lret (pc := 33) X dX12_torn_33
      · have hq := ite_f hq c7
        refine J_iload_n (pc := 24) X (j := 3) (i := 2) rfl rfl dX12_torn_24 ?_
        refine J_bipush (pc := 25) X (v := 12) (by decide) dX12_torn_25 ?_
        refine J_icmp_le (pc := 27) (tgt := 34) X dX12_torn_27 rfl (fun c8 => ?_) (fun c8 => ?_)
        · have hq := ite_t hq c8
          refine J_aload_n (pc := 34) X (j := 1) (i := 0) rfl rfl dX12_torn_34 ?_
          refine J_getF (pc := 35) X (b := 6) ly1 fl_12_28 rfl dX12_torn_35 ?_
          refine J_getF (pc := 38) X (b := 7) ly6 fl_12_95 rfl dX12_torn_38 ?_
          refine J_getF (pc := 41) X (b := 9) ly7 fl_12_210 rfl dX12_torn_41 ?_
          refine J_iload_n (pc := 44) X (j := 3) (i := 2) rfl rfl dX12_torn_44 ?_
          refine J_iload_n (pc := 45) X (j := 2) (i := 1) rfl rfl dX12_torn_45 ?_
          obtain ⟨v10, h9, hc, hq⟩ := bnd_e hq
          refine J_callV (pc := 46) (as := [.inl x2, .inl x1]) (st := []) (st2 := [.inl v10]) (r1 := (some (.inl v10), h9)) (h2 := h9) (ky := 2) X dX12_torn_46 ca_X1_leftOf ci_X1_leftOf cs_X1_leftOf ml_12_289 (by decide) ly9 rfl rfl (m_X1_leftOf _ _ _ _ _ ly9 hc) rfl rfl (Nat.le_of_ble_eq_true rfl) rfl rfl ?_
          refine J_aload_n (pc := 49) X (j := 1) (i := 0) rfl rfl dX12_torn_49 ?_
          refine J_getF (pc := 50) X (b := 153) ly1 fl_12_71 rfl dX12_torn_50 ?_
          refine J_getI (pc := 53) X ly153 fl_12_74 dX12_torn_53 ?_
          refine J_icmp_eq (pc := 56) (tgt := 63) X dX12_torn_56 rfl (fun c11 => ?_) (fun c11 => ?_)
          · have hq := ite_t hq c11
            refine J_aload_n (pc := 63) X (j := 1) (i := 0) rfl rfl dX12_torn_63 ?_
            refine J_getF (pc := 64) X (b := 133) ly1 fl_12_57 rfl dX12_torn_64 ?_
            refine J_aload_n (pc := 67) X (j := 1) (i := 0) rfl rfl dX12_torn_67 ?_
            refine J_getF (pc := 68) X (b := 6) ly1 fl_12_28 rfl dX12_torn_68 ?_
            refine J_getF (pc := 71) X (b := 7) ly6 fl_12_95 rfl dX12_torn_71 ?_
            refine J_aload_n (pc := 74) X (j := 1) (i := 0) rfl rfl dX12_torn_74 ?_
            refine J_getF (pc := 75) X (b := 153) ly1 fl_12_71 rfl dX12_torn_75 ?_
            refine J_iload_n (pc := 78) X (j := 2) (i := 1) rfl rfl dX12_torn_78 ?_
            refine J_iload_n (pc := 79) X (j := 3) (i := 2) rfl rfl dX12_torn_79 ?_
            obtain ⟨h12, hc, hq⟩ := bnv_e hq
            refine J_callV (pc := 80) (as := [.inr (.inr 7), .inr (.inr 153), .inl x1, .inl x2]) (st := []) (st2 := []) (r1 := (none, h12)) (h2 := h12) (ky := 5) X dX12_torn_80 ca_X8_look ci_X8_look cs_X8_look ml_12_292 (by decide) ly133 rfl rfl (m_X8_look _ _ _ _ _ _ ly7 ly153 hc) rfl rfl (Nat.le_of_ble_eq_true rfl) rfl rfl ?_
            refine J_aload_n (pc := 83) X (j := 1) (i := 0) rfl rfl dX12_torn_83 ?_
            refine J_getF (pc := 84) X (b := 133) ly1 fl_12_57 rfl dX12_torn_84 ?_
            refine J_getL (pc := 87) X ly133 fl_12_296 dX12_torn_87 ?_
            obtain rfl := Option.some.inj hq
            exact J_lret (pc := 90) X dX12_torn_90
          · have hq := ite_f hq c11
            refine J_ldc2 (pc := 59) X cl_12_194 dX12_torn_59 ?_
            obtain rfl := Option.some.inj hq
            exact J_lret (pc := 62) X dX12_torn_62
        · have hq := ite_f hq c8
          refine J_ldc2 (pc := 30) X cl_12_194 dX12_torn_30 ?_
          obtain rfl := Option.some.inj hq
          exact J_lret (pc := 33) X dX12_torn_33
theorem m_X12_torn (x1 : Int32) (x2 : Int32) (h : Hp) (q : (Int64 × Hp)) (hq : f_X12_torn x1 x2 h = some q) : ∀ l w, CT l w yX12_torn cX12_torn 4 (some .long) 6 [.inr (.inr 1), .inl x1, .inl x2] h (some (.inr (.inl q.1)), q.2) :=
  CT_of (L0 := [(0, .inr (.inr 1)), (1, .inl x1), (2, .inl x2)]) (by decide) rfl (Nat.le_of_ble_eq_true rfl) (fun κ X => tf_X12_torn X x1 x2 h q  hq)
theorem tf_X12_sure {κ : Kx} (X : OK κ cX12_sure 2 (some .int) "StruckWords" 1) (x1 : Int32) (h : Hp) (q : (Int32 × Hp)) (hq : f_X12_sure x1 h = some q) : J κ 0 [(0, .inr (.inr 1)), (1, .inl x1)] [] h (some (.inl q.1), q.2) := by
  delta f_X12_sure at hq
  refine J_aload_n (pc := 0) X (j := 0) (i := 0) rfl rfl dX12_sure_0 ?_
  refine J_getF (pc := 1) X (b := 133) ly1 fl_12_57 rfl dX12_sure_1 ?_
  refine J_getI (pc := 4) X ly133 fl_12_300 dX12_sure_4 ?_
  refine J_if_ne (pc := 7) (tgt := 12) X dX12_sure_7 rfl (fun c1 => ?_) (fun c1 => ?_)
  · have hq := ite_f hq c1
    refine J_iload_n (pc := 12) X (j := 1) (i := 1) rfl rfl dX12_sure_12 ?_
    by_cases c2 : x1 = 0
    · have hq := ite_t hq c2
      refine J_tsIn (pc := 13) (tgt := 40) X dX12_sure_13 (0) (by rw [c2]; rfl) (by decide) (by decide) rfl rfl ?_
      refine J_aload_n (pc := 40) X (j := 0) (i := 0) rfl rfl dX12_sure_40 ?_
      refine J_getF (pc := 41) X (b := 133) ly1 fl_12_57 rfl dX12_sure_41 ?_
      refine J_getI (pc := 44) X ly133 fl_12_304 dX12_sure_44 ?_
      obtain rfl := Option.some.inj hq
      exact J_iret (pc := 47) X dX12_sure_47
    · have hq := ite_f hq c2
      by_cases c3 : x1 = 1
      · have hq := ite_t hq c3
        refine J_tsIn (pc := 13) (tgt := 48) X dX12_sure_13 (1) (by rw [c3]; rfl) (by decide) (by decide) rfl rfl ?_
        refine J_aload_n (pc := 48) X (j := 0) (i := 0) rfl rfl dX12_sure_48 ?_
        refine J_getF (pc := 49) X (b := 133) ly1 fl_12_57 rfl dX12_sure_49 ?_
        refine J_getI (pc := 52) X ly133 fl_12_307 dX12_sure_52 ?_
        obtain rfl := Option.some.inj hq
        exact J_iret (pc := 55) X dX12_sure_55
      · have hq := ite_f hq c3
        by_cases c4 : x1 = 2
        · have hq := ite_t hq c4
          refine J_tsIn (pc := 13) (tgt := 56) X dX12_sure_13 (2) (by rw [c4]; rfl) (by decide) (by decide) rfl rfl ?_
          refine J_aload_n (pc := 56) X (j := 0) (i := 0) rfl rfl dX12_sure_56 ?_
          refine J_getF (pc := 57) X (b := 133) ly1 fl_12_57 rfl dX12_sure_57 ?_
          refine J_getI (pc := 60) X ly133 fl_12_310 dX12_sure_60 ?_
          obtain rfl := Option.some.inj hq
          exact J_iret (pc := 63) X dX12_sure_63
        · have hq := ite_f hq c4
          refine J_tsOut (pc := 13) (tgt := 64) X dX12_sure_13 (by
              have e0 := ne_toInt c2; rw [show (0 : Int32).toInt = 0 from rfl] at e0
              have e1 := ne_toInt c3; rw [show (1 : Int32).toInt = 1 from rfl] at e1
              have e2 := ne_toInt c4; rw [show (2 : Int32).toInt = 2 from rfl] at e2
              omega) rfl ?_
          refine J_iconst (pc := 64) X (v := (-1)) (by decide) dX12_sure_64 ?_
          obtain rfl := Option.some.inj hq
          exact J_iret (pc := 65) X dX12_sure_65
  · have hq := ite_t hq c1
    refine J_iconst (pc := 10) X (v := (-1)) (by decide) dX12_sure_10 ?_
    obtain rfl := Option.some.inj hq
    exact J_iret (pc := 11) X dX12_sure_11
theorem m_X12_sure (x1 : Int32) (h : Hp) (q : (Int32 × Hp)) (hq : f_X12_sure x1 h = some q) : ∀ l w, CT l w yX12_sure cX12_sure 2 (some .int) 1 [.inr (.inr 1), .inl x1] h (some (.inl q.1), q.2) :=
  CT_of (L0 := [(0, .inr (.inr 1)), (1, .inl x1)]) (by decide) rfl (Nat.le_of_ble_eq_true rfl) (fun κ X => tf_X12_sure X x1 h q  hq)
theorem tf_X12_likeliest {κ : Kx} (X : OK κ cX12_likeliest 1 (some .long) "StruckWords" 4) (h : Hp) (q : (Int64 × Hp)) (hq : f_X12_likeliest h = some q) : J κ 0 [(0, .inr (.inr 1))] [] h (some (.inr (.inl q.1)), q.2) := by
  delta f_X12_likeliest at hq
  refine J_aload_n (pc := 0) X (j := 0) (i := 0) rfl rfl dX12_likeliest_0 ?_
  refine J_getF (pc := 1) X (b := 133) ly1 fl_12_57 rfl dX12_likeliest_1 ?_
  refine J_getI (pc := 4) X ly133 fl_12_300 dX12_likeliest_4 ?_
  refine J_if_ne (pc := 7) (tgt := 14) X dX12_likeliest_7 rfl (fun c1 => ?_) (fun c1 => ?_)
  · have hq := ite_f hq c1
    refine J_aload_n (pc := 14) X (j := 0) (i := 0) rfl rfl dX12_likeliest_14 ?_
    refine J_getF (pc := 15) X (b := 133) ly1 fl_12_57 rfl dX12_likeliest_15 ?_
    refine J_getL (pc := 18) X ly133 fl_12_313 dX12_likeliest_18 ?_
    refine J_lconst (pc := 21) X (v := 0) (by decide) dX12_likeliest_21 ?_
    refine J_lcmp (pc := 22) X dX12_likeliest_22 ?_
    refine J_if_le (pc := 23) (tgt := 40) X dX12_likeliest_23 rfl (fun c2 => ?_) (fun c2 => ?_)
    · have hq := ite_t hq c2
      refine J_aload_n (pc := 40) X (j := 0) (i := 0) rfl rfl dX12_likeliest_40 ?_
      refine J_getF (pc := 41) X (b := 133) ly1 fl_12_57 rfl dX12_likeliest_41 ?_
      refine J_getL (pc := 44) X ly133 fl_12_313 dX12_likeliest_44 ?_
      obtain rfl := Option.some.inj hq
      exact J_lret (pc := 47) X dX12_likeliest_47
    · have hq := ite_f hq c2
      refine J_aload_n (pc := 26) X (j := 0) (i := 0) rfl rfl dX12_likeliest_26 ?_
      refine J_getF (pc := 27) X (b := 140) ly1 fl_12_61 rfl dX12_likeliest_27 ?_
      refine J_aload_n (pc := 30) X (j := 0) (i := 0) rfl rfl dX12_likeliest_30 ?_
      refine J_getF (pc := 31) X (b := 133) ly1 fl_12_57 rfl dX12_likeliest_31 ?_
      refine J_getF (pc := 34) X (b := 134) ly133 fl_12_316 rfl dX12_likeliest_34 ?_
      obtain ⟨h3, hc, hq⟩ := bnv_e hq
      refine J_callV (pc := 37) (as := [.inr (.inr 134)]) (st := []) (st2 := []) (r1 := (none, h3)) (h2 := h3) (ky := 3) X dX12_likeliest_37 ca_X7_copyFrom ci_X7_copyFrom cs_X7_copyFrom ml_12_152 (by decide) ly140 rfl rfl (m_X7_copyFrom _ _ _ _ ly140 ly134 hc) rfl rfl (Nat.le_of_ble_eq_true rfl) rfl rfl ?_
      refine J_aload_n (pc := 40) X (j := 0) (i := 0) rfl rfl dX12_likeliest_40 ?_
      refine J_getF (pc := 41) X (b := 133) ly1 fl_12_57 rfl dX12_likeliest_41 ?_
      refine J_getL (pc := 44) X ly133 fl_12_313 dX12_likeliest_44 ?_
      obtain rfl := Option.some.inj hq
      exact J_lret (pc := 47) X dX12_likeliest_47
  · have hq := ite_t hq c1
    refine J_ldc2 (pc := 10) X cl_12_194 dX12_likeliest_10 ?_
    obtain rfl := Option.some.inj hq
    exact J_lret (pc := 13) X dX12_likeliest_13
theorem m_X12_likeliest (h : Hp) (q : (Int64 × Hp)) (hq : f_X12_likeliest  h = some q) : ∀ l w, CT l w yX12_likeliest cX12_likeliest 1 (some .long) 4 [.inr (.inr 1)] h (some (.inr (.inl q.1)), q.2) :=
  CT_of (L0 := [(0, .inr (.inr 1))]) (by decide) rfl (Nat.le_of_ble_eq_true rfl) (fun κ X => tf_X12_likeliest X  h q  hq)
theorem tf_X12_add {κ : Kx} (X : OK κ cX12_add 1 (some .int) "StruckWords" 4) (h : Hp) (q : (Int32 × Hp)) (hq : f_X12_add h = some q) : J κ 0 [(0, .inr (.inr 1))] [] h (some (.inl q.1), q.2) := by
  delta f_X12_add at hq
  refine J_aload_n (pc := 0) X (j := 0) (i := 0) rfl rfl dX12_add_0 ?_
  refine J_getF (pc := 1) X (b := 6) ly1 fl_12_28 rfl dX12_add_1 ?_
  refine J_getI (pc := 4) X ly6 fl_12_319 dX12_add_4 ?_
  refine J_bipush (pc := 7) X (v := 10) (by decide) dX12_add_7 ?_
  refine J_icmp_lt (pc := 9) (tgt := 14) X dX12_add_9 rfl (fun c1 => ?_) (fun c1 => ?_)
  · have hq := ite_t hq c1
    refine J_aload_n (pc := 14) X (j := 0) (i := 0) rfl rfl dX12_add_14 ?_
    refine J_getF (pc := 15) X (b := 6) ly1 fl_12_28 rfl dX12_add_15 ?_
    refine J_getF (pc := 18) X (b := 20) ly6 fl_12_322 rfl dX12_add_18 ?_
    refine J_aload_n (pc := 21) X (j := 0) (i := 0) rfl rfl dX12_add_21 ?_
    refine J_getF (pc := 22) X (b := 6) ly1 fl_12_28 rfl dX12_add_22 ?_
    refine J_getI (pc := 25) X ly6 fl_12_319 dX12_add_25 ?_
    obtain ⟨g2, hq⟩ := gd hq
    refine J_aaloadR (pc := 28) X ly20 g2 dX12_add_28 ?_
    refine J_aload_n (pc := 29) X (j := 0) (i := 0) rfl rfl dX12_add_29 ?_
    refine J_getF (pc := 30) X (b := 6) ly1 fl_12_28 rfl dX12_add_30 ?_
    refine J_getF (pc := 33) X (b := 18) ly6 fl_12_149 rfl dX12_add_33 ?_
    obtain ⟨h3, hc, hq⟩ := bnv_e hq
    refine J_callV (pc := 36) (as := [.inr (.inr 18)]) (st := []) (st2 := []) (r1 := (none, h3)) (h2 := h3) (ky := 3) X dX12_add_36 ca_X7_copyFrom ci_X7_copyFrom cs_X7_copyFrom ml_12_152 (by decide) (ly_cl ly20 _ (inb_lt g2)) rfl rfl (m_X7_copyFrom _ _ _ _ (ly_cl ly20 _ (inb_lt g2)) ly18 hc) rfl rfl (Nat.le_of_ble_eq_true rfl) rfl rfl ?_
    refine J_aload_n (pc := 39) X (j := 0) (i := 0) rfl rfl dX12_add_39 ?_
    refine J_getF (pc := 40) X (b := 6) ly1 fl_12_28 rfl dX12_add_40 ?_
    refine J_dup (pc := 43) X rfl dX12_add_43 ?_
    refine J_getI (pc := 44) X ly6 fl_12_319 dX12_add_44 ?_
    refine J_iconst (pc := 47) X (v := 1) (by decide) dX12_add_47 ?_
    refine J_iadd (pc := 48) X dX12_add_48 ?_
    refine J_putI (pc := 49) X ly6 fp_12_319 dX12_add_49 ?_
    refine J_ltH hq (fun h4 hq => ?_)
    refine J_aload_n (pc := 52) X (j := 0) (i := 0) rfl rfl dX12_add_52 ?_
    refine J_getF (pc := 53) X (b := 6) ly1 fl_12_28 rfl dX12_add_53 ?_
    refine J_getI (pc := 56) X ly6 fl_12_319 dX12_add_56 ?_
    refine J_iconst (pc := 59) X (v := 1) (by decide) dX12_add_59 ?_
    refine J_isub (pc := 60) X dX12_add_60 ?_
    obtain rfl := Option.some.inj hq
    exact J_iret (pc := 61) X dX12_add_61
  · have hq := ite_f hq c1
    refine J_iconst (pc := 12) X (v := (-1)) (by decide) dX12_add_12 ?_
    obtain rfl := Option.some.inj hq
    exact J_iret (pc := 13) X dX12_add_13
theorem m_X12_add (h : Hp) (q : (Int32 × Hp)) (hq : f_X12_add  h = some q) : ∀ l w, CT l w yX12_add cX12_add 1 (some .int) 4 [.inr (.inr 1)] h (some (.inl q.1), q.2) :=
  CT_of (L0 := [(0, .inr (.inr 1))]) (by decide) rfl (Nat.le_of_ble_eq_true rfl) (fun κ X => tf_X12_add X  h q  hq)
theorem tf_X12_take {κ : Kx} (X : OK κ cX12_take 2 (some .int) "StruckWords" 4) (x1 : Int32) (h : Hp) (q : (Int32 × Hp)) (hq : f_X12_take x1 h = some q) : J κ 0 [(0, .inr (.inr 1)), (1, .inl x1)] [] h (some (.inl q.1), q.2) := by
  delta f_X12_take at hq
  refine J_iload_n (pc := 0) X (j := 1) (i := 1) rfl rfl dX12_take_0 ?_
  refine J_if_lt (pc := 1) (tgt := 15) X dX12_take_1 rfl (fun c1 => ?_) (fun c1 => ?_)
  · have hq := ite_t hq c1
    refine J_iconst (pc := 15) X (v := (-1)) (by decide) dX12_take_15 ?_
    obtain rfl := Option.some.inj hq
    exact J_iret (pc := 16) X dX12_take_16
  · have hq := ite_f hq c1
    refine J_iload_n (pc := 4) X (j := 1) (i := 1) rfl rfl dX12_take_4 ?_
    refine J_aload_n (pc := 5) X (j := 0) (i := 0) rfl rfl dX12_take_5 ?_
    refine J_getF (pc := 6) X (b := 6) ly1 fl_12_28 rfl dX12_take_6 ?_
    refine J_getI (pc := 9) X ly6 fl_12_319 dX12_take_9 ?_
    refine J_icmp_lt (pc := 12) (tgt := 17) X dX12_take_12 rfl (fun c2 => ?_) (fun c2 => ?_)
    · have hq := ite_t hq c2
      refine J_aload_n (pc := 17) X (j := 0) (i := 0) rfl rfl dX12_take_17 ?_
      refine J_getF (pc := 18) X (b := 6) ly1 fl_12_28 rfl dX12_take_18 ?_
      refine J_getF (pc := 21) X (b := 18) ly6 fl_12_149 rfl dX12_take_21 ?_
      refine J_aload_n (pc := 24) X (j := 0) (i := 0) rfl rfl dX12_take_24 ?_
      refine J_getF (pc := 25) X (b := 6) ly1 fl_12_28 rfl dX12_take_25 ?_
      refine J_getF (pc := 28) X (b := 20) ly6 fl_12_322 rfl dX12_take_28 ?_
      refine J_iload_n (pc := 31) X (j := 1) (i := 1) rfl rfl dX12_take_31 ?_
      obtain ⟨g3, hq⟩ := gd hq
      refine J_aaloadR (pc := 32) X ly20 g3 dX12_take_32 ?_
      obtain ⟨h4, hc, hq⟩ := bnv_e hq
      refine J_callV (pc := 33) (as := [.inr (.inr (20 + 1 + 2 * x1.toNatClampNeg))]) (st := []) (st2 := []) (r1 := (none, h4)) (h2 := h4) (ky := 3) X dX12_take_33 ca_X7_copyFrom ci_X7_copyFrom cs_X7_copyFrom ml_12_152 (by decide) ly18 rfl rfl (m_X7_copyFrom _ _ _ _ ly18 (ly_cl ly20 _ (inb_lt g3)) hc) rfl rfl (Nat.le_of_ble_eq_true rfl) rfl rfl ?_
      refine J_aload_n (pc := 36) X (j := 0) (i := 0) rfl rfl dX12_take_36 ?_
      refine J_getF (pc := 37) X (b := 6) ly1 fl_12_28 rfl dX12_take_37 ?_
      refine J_getF (pc := 40) X (b := 18) ly6 fl_12_149 rfl dX12_take_40 ?_
      refine J_getI (pc := 43) X ly18 fl_12_74 dX12_take_43 ?_
      obtain rfl := Option.some.inj hq
      exact J_iret (pc := 46) X dX12_take_46
    · have hq := ite_f hq c2
      refine J_iconst (pc := 15) X (v := (-1)) (by decide) dX12_take_15 ?_
      obtain rfl := Option.some.inj hq
      exact J_iret (pc := 16) X dX12_take_16
theorem m_X12_take (x1 : Int32) (h : Hp) (q : (Int32 × Hp)) (hq : f_X12_take x1 h = some q) : ∀ l w, CT l w yX12_take cX12_take 2 (some .int) 4 [.inr (.inr 1), .inl x1] h (some (.inl q.1), q.2) :=
  CT_of (L0 := [(0, .inr (.inr 1)), (1, .inl x1)]) (by decide) rfl (Nat.le_of_ble_eq_true rfl) (fun κ X => tf_X12_take X x1 h q  hq)
