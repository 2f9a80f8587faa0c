theorem tF_X13_takesGoals_35 {κ : Kx} (X : OK κ cX13_takesGoals 2 (some .boolean) "StruckWordsModel" 3) (k65 : Hp → Option (Int32 × Hp)) (k73 : Hp → Option (Int32 × Hp)) (self : Int32 → Hp → Option (Int32 × Hp)) (x1 : Int32) (h : Hp) (q : (Int32 × Hp)) (hk65 : ∀ (h : Hp) (q : (Int32 × Hp)), k65 h = some q → J κ 65 [] [] h (some (.inl q.1), q.2)) (hk73 : ∀ (h : Hp) (q : (Int32 × Hp)), k73 h = some q → J κ 73 [(0, .inr (.inr 155))] [] h (some (.inl q.1), q.2)) (hself : ∀ (x1 : Int32) (h : Hp) (q : (Int32 × Hp)), self x1 h = some q → J κ 35 [(0, .inr (.inr 155)), (1, .inl x1)] [] h (some (.inl q.1), q.2)) (hq : F_X13_takesGoals_35 k65 k73 self x1 h = some q) : J κ 35 [(0, .inr (.inr 155)), (1, .inl x1)] [] h (some (.inl q.1), q.2) := by
  delta F_X13_takesGoals_35 at hq
  refine J_iload_n (pc := 35) X (j := 1) (i := 1) rfl rfl dX13_takesGoals_35 ?_
  refine J_aload_n (pc := 36) X (j := 0) (i := 0) rfl rfl dX13_takesGoals_36 ?_
  refine J_getI (pc := 37) X ly155 fl_13_18 dX13_takesGoals_37 ?_
  refine J_icmp_ge (pc := 40) (tgt := 73) X dX13_takesGoals_40 rfl (fun c4 => ?_) (fun c4 => ?_)
  · have hq := ite_t hq c4
    refine J_sub [0] rfl ?_
    exact hk73 _ _ hq
  · have hq := ite_f hq c4
    refine J_aload_n (pc := 43) X (j := 0) (i := 0) rfl rfl dX13_takesGoals_43 ?_
    refine J_getF (pc := 44) X (b := 172) ly155 fl_13_84 rfl dX13_takesGoals_44 ?_
    refine J_iload_n (pc := 47) X (j := 1) (i := 1) rfl rfl dX13_takesGoals_47 ?_
    refine J_aload_n (pc := 48) X (j := 0) (i := 0) rfl rfl dX13_takesGoals_48 ?_
    refine J_iload_n (pc := 49) X (j := 1) (i := 1) rfl rfl dX13_takesGoals_49 ?_
    obtain ⟨v6, h5, hc, hq⟩ := bnd_e hq
    refine J_callV (pc := 50) (as := [.inl x1]) (st := [.inl x1, .inr (.inr 172)]) (st2 := [.inl v6, .inl x1, .inr (.inr 172)]) (r1 := (some (.inl v6), h5)) (h2 := h5) (ky := 1) X dX13_takesGoals_50 ca_X13_octet ci_X13_octet cs_X13_octet ml_13_283 (by decide) ly155 rfl rfl (m_X13_octet _ _ _ hc) rfl rfl (Nat.le_of_ble_eq_true rfl) rfl rfl ?_
    obtain ⟨g7, hq⟩ := gd hq
    refine J_iastore (pc := 53) X ly172 g7 dX13_takesGoals_53 ?_
    refine J_ltH hq (fun h8 hq => ?_)
    refine J_aload_n (pc := 54) X (j := 0) (i := 0) rfl rfl dX13_takesGoals_54 ?_
    refine J_getF (pc := 55) X (b := 172) ly155 fl_13_84 rfl dX13_takesGoals_55 ?_
    refine J_iload_n (pc := 58) X (j := 1) (i := 1) rfl rfl dX13_takesGoals_58 ?_
    obtain ⟨g9, hq⟩ := gd hq
    refine J_iaload (pc := 59) X ly172 g9 dX13_takesGoals_59 ?_
    refine J_bipush (pc := 60) X (v := 9) (by decide) dX13_takesGoals_60 ?_
    refine J_icmp_le (pc := 62) (tgt := 67) X dX13_takesGoals_62 rfl (fun c10 => ?_) (fun c10 => ?_)
    · have hq := ite_t hq c10
      refine J_iinc (pc := 67) X (j := 1) (v := 1) (L' := [(1, .inl (x1 + 1)), (0, .inr (.inr 155))]) rfl (by decide) (by decide) rfl dX13_takesGoals_67 ?_
      refine J_goto (pc := 70) X (tgt := 35) dX13_takesGoals_70 rfl ?_
      refine J_sub [1, 0] rfl ?_
      exact hself _ _ _ hq
    · have hq := ite_f hq c10
      refine J_sub [] rfl ?_
      exact hk65 _ _ hq
theorem tL_X13_takesGoals_35 {κ : Kx} (X : OK κ cX13_takesGoals 2 (some .boolean) "StruckWordsModel" 3) (k65 : Hp → Option (Int32 × Hp)) (k73 : Hp → Option (Int32 × Hp)) (N : Nat) (x1 : Int32) (h : Hp) (q : (Int32 × Hp)) (hk65 : ∀ (h : Hp) (q : (Int32 × Hp)), k65 h = some q → J κ 65 [] [] h (some (.inl q.1), q.2)) (hk73 : ∀ (h : Hp) (q : (Int32 × Hp)), k73 h = some q → J κ 73 [(0, .inr (.inr 155))] [] h (some (.inl q.1), q.2)) (hq : itr2 (F_X13_takesGoals_35 k65 k73) N x1 h = some q) : J κ 35 [(0, .inr (.inr 155)), (1, .inl x1)] [] h (some (.inl q.1), q.2) :=
  itr2_ind (fun self hs x1 h q hq => tF_X13_takesGoals_35 X k65 k73 self x1 h q hk65 hk73 hs hq) N x1 h q hq
theorem tf_X13_takesGoals {κ : Kx} (X : OK κ cX13_takesGoals 2 (some .boolean) "StruckWordsModel" 3) (h : Hp) (q : (Int32 × Hp)) (hq : f_X13_takesGoals h = some q) : J κ 0 [(0, .inr (.inr 155))] [] h (some (.inl q.1), q.2) := by
  delta f_X13_takesGoals at hq
  refine J_aload_n (pc := 0) X (j := 0) (i := 0) rfl rfl dX13_takesGoals_0 ?_
  refine J_sipush (pc := 1) X (v := 940) (by decide) dX13_takesGoals_1 ?_
  obtain ⟨h1, hc, hq⟩ := bnv_e hq
  refine J_callV (pc := 4) (as := [.inl 940]) (st := []) (st2 := []) (r1 := (none, h1)) (h2 := h1) (ky := 1) X dX13_takesGoals_4 ca_X13_taken ci_X13_taken cs_X13_taken ml_13_260 (by decide) ly155 rfl rfl (m_X13_taken _ _ _ hc) rfl rfl (Nat.le_of_ble_eq_true rfl) rfl rfl ?_
  refine J_aload_n (pc := 7) X (j := 0) (i := 0) rfl rfl dX13_takesGoals_7 ?_
  refine J_getF (pc := 8) X (b := 157) ly155 fl_13_33 rfl dX13_takesGoals_8 ?_
  refine J_iconst (pc := 11) X (v := 2) (by decide) dX13_takesGoals_11 ?_
  refine J_iaload (pc := 12) X ly157 (by decide) dX13_takesGoals_12 ?_
  refine J_if_eq (pc := 13) (tgt := 31) X dX13_takesGoals_13 rfl (fun c2 => ?_) (fun c2 => ?_)
  · have hq := ite_t hq c2
    refine J_iconst (pc := 31) X (v := 0) (by decide) dX13_takesGoals_31 ?_
    obtain rfl := Option.some.inj hq
    exact J_zret (pc := 32) X (by decide) dX13_takesGoals_32
  · have hq := ite_f hq c2
    refine J_aload_n (pc := 16) X (j := 0) (i := 0) rfl rfl dX13_takesGoals_16 ?_
    refine J_getI (pc := 17) X ly155 fl_13_18 dX13_takesGoals_17 ?_
    refine J_aload_n (pc := 20) X (j := 0) (i := 0) rfl rfl dX13_takesGoals_20 ?_
    refine J_getF (pc := 21) X (b := 157) ly155 fl_13_33 rfl dX13_takesGoals_21 ?_
    refine J_iconst (pc := 24) X (v := 3) (by decide) dX13_takesGoals_24 ?_
    refine J_iaload (pc := 25) X ly157 (by decide) dX13_takesGoals_25 ?_
    refine J_iconst (pc := 26) X (v := 1) (by decide) dX13_takesGoals_26 ?_
    refine J_iadd (pc := 27) X dX13_takesGoals_27 ?_
    refine J_icmp_eq (pc := 28) (tgt := 33) X dX13_takesGoals_28 rfl (fun c3 => ?_) (fun c3 => ?_)
    · have hq := ite_t hq c3
      refine J_iconst (pc := 33) X (v := 0) (by decide) dX13_takesGoals_33 ?_
      refine J_istore_n (pc := 34) X (L' := [(1, .inl 0), (0, .inr (.inr 155))]) (i := 1) rfl (by decide) rfl dX13_takesGoals_34 ?_
      refine J_sub [1, 0] rfl ?_
      refine tL_X13_takesGoals_35 X _ _ N0 _ _ _ ?_ ?_ hq
      · intro h11 q hq
        refine J_iconst (pc := 65) X (v := 0) (by decide) dX13_takesGoals_65 ?_
        obtain rfl := Option.some.inj hq
        exact J_zret (pc := 66) X (by decide) dX13_takesGoals_66
      · intro h12 q hq
        refine J_aload_n (pc := 73) X (j := 0) (i := 0) rfl rfl dX13_takesGoals_73 ?_
        obtain ⟨h13, hc, hq⟩ := bnv_e hq
        refine J_callV (pc := 74) (as := []) (st := []) (st2 := []) (r1 := (none, h13)) (h2 := h13) (ky := 2) X dX13_takesGoals_74 ca_X13_settle ci_X13_settle cs_X13_settle ml_13_328 (by decide) ly155 rfl rfl (m_X13_settle _ _ hc) rfl rfl (Nat.le_of_ble_eq_true rfl) rfl rfl ?_
        refine J_iconst (pc := 77) X (v := 1) (by decide) dX13_takesGoals_77 ?_
        obtain rfl := Option.some.inj hq
        exact J_zret (pc := 78) X (by decide) dX13_takesGoals_78
    · have hq := ite_f hq c3
      refine J_iconst (pc := 31) X (v := 0) (by decide) dX13_takesGoals_31 ?_
      obtain rfl := Option.some.inj hq
      exact J_zret (pc := 32) X (by decide) dX13_takesGoals_32
theorem m_X13_takesGoals (h : Hp) (q : (Int32 × Hp)) (hq : f_X13_takesGoals  h = some q) : ∀ l w, CT l w yX13_takesGoals cX13_takesGoals 2 (some .boolean) 3 [.inr (.inr 155)] h (some (.inl q.1), q.2) :=
  CT_of (L0 := [(0, .inr (.inr 155))]) (by decide) rfl (Nat.le_of_ble_eq_true rfl) (fun κ X => tf_X13_takesGoals X  h q  hq)
theorem tF_X13_keepRow_13 {κ : Kx} (X : OK κ cX13_keepRow 3 (some .int) "StruckWordsModel" 1) (x1 : Int32) (k36 : Hp → Option (Int32 × Hp)) (self : Int32 → Hp → Option (Int32 × Hp)) (x2 : Int32) (h : Hp) (q : (Int32 × Hp)) (hk36 : ∀ (h : Hp) (q : (Int32 × Hp)), k36 h = some q → J κ 36 [(1, .inl x1)] [] h (some (.inl q.1), q.2)) (hself : ∀ (x2 : Int32) (h : Hp) (q : (Int32 × Hp)), self x2 h = some q → J κ 13 [(0, .inr (.inr 155)), (1, .inl x1), (2, .inl x2)] [] h (some (.inl q.1), q.2)) (hq : F_X13_keepRow_13 x1 k36 self x2 h = some q) : J κ 13 [(0, .inr (.inr 155)), (1, .inl x1), (2, .inl x2)] [] h (some (.inl q.1), q.2) := by
  delta F_X13_keepRow_13 at hq
  refine J_iload_n (pc := 13) X (j := 2) (i := 2) rfl rfl dX13_keepRow_13 ?_
  refine J_iload_n (pc := 14) X (j := 1) (i := 1) rfl rfl dX13_keepRow_14 ?_
  refine J_icmp_ge (pc := 15) (tgt := 36) X dX13_keepRow_15 rfl (fun c3 => ?_) (fun c3 => ?_)
  · have hq := ite_t hq c3
    refine J_sub [1] rfl ?_
    exact hk36 _ _ hq
  · have hq := ite_f hq c3
    refine J_aload_n (pc := 18) X (j := 0) (i := 0) rfl rfl dX13_keepRow_18 ?_
    refine J_getF (pc := 19) X (b := 176) ly155 fl_13_96 rfl dX13_keepRow_19 ?_
    refine J_iload_n (pc := 22) X (j := 2) (i := 2) rfl rfl dX13_keepRow_22 ?_
    refine J_aload_n (pc := 23) X (j := 0) (i := 0) rfl rfl dX13_keepRow_23 ?_
    refine J_getF (pc := 24) X (b := 174) ly155 fl_13_90 rfl dX13_keepRow_24 ?_
    refine J_iload_n (pc := 27) X (j := 2) (i := 2) rfl rfl dX13_keepRow_27 ?_
    obtain ⟨g4, hq⟩ := gd hq
    refine J_iaload (pc := 28) X ly174 g4 dX13_keepRow_28 ?_
    obtain ⟨g5, hq⟩ := gd hq
    refine J_iastore (pc := 29) X ly176 g5 dX13_keepRow_29 ?_
    refine J_ltH hq (fun h6 hq => ?_)
    refine J_iinc (pc := 30) X (j := 2) (v := 1) (L' := [(2, .inl (x2 + 1)), (0, .inr (.inr 155)), (1, .inl x1)]) rfl (by decide) (by decide) rfl dX13_keepRow_30 ?_
    refine J_goto (pc := 33) X (tgt := 13) dX13_keepRow_33 rfl ?_
    refine J_sub [1, 2, 0] rfl ?_
    exact hself _ _ _ hq
theorem tL_X13_keepRow_13 {κ : Kx} (X : OK κ cX13_keepRow 3 (some .int) "StruckWordsModel" 1) (x1 : Int32) (k36 : Hp → Option (Int32 × Hp)) (N : Nat) (x2 : Int32) (h : Hp) (q : (Int32 × Hp)) (hk36 : ∀ (h : Hp) (q : (Int32 × Hp)), k36 h = some q → J κ 36 [(1, .inl x1)] [] h (some (.inl q.1), q.2)) (hq : itr2 (F_X13_keepRow_13 x1 k36) N x2 h = some q) : J κ 13 [(0, .inr (.inr 155)), (1, .inl x1), (2, .inl x2)] [] h (some (.inl q.1), q.2) :=
  itr2_ind (fun self hs x2 h q hq => tF_X13_keepRow_13 X x1 k36 self x2 h q hk36 hs hq) N x2 h q hq
theorem tf_X13_keepRow {κ : Kx} (X : OK κ cX13_keepRow 3 (some .int) "StruckWordsModel" 1) (x1 : Int32) (h : Hp) (q : (Int32 × Hp)) (hq : f_X13_keepRow x1 h = some q) : J κ 0 [(0, .inr (.inr 155)), (1, .inl x1)] [] h (some (.inl q.1), q.2) := by
  delta f_X13_keepRow at hq
  refine J_iload_n (pc := 0) X (j := 1) (i := 1) rfl rfl dX13_keepRow_0 ?_
  refine J_if_ge (pc := 1) (tgt := 6) X dX13_keepRow_1 rfl (fun c1 => ?_) (fun c1 => ?_)
  · have hq := ite_t hq c1
    refine J_aload_n (pc := 6) X (j := 0) (i := 0) rfl rfl dX13_keepRow_6 ?_
    refine J_iload_n (pc := 7) X (j := 1) (i := 1) rfl rfl dX13_keepRow_7 ?_
    refine J_putI (pc := 8) X ly155 fp_13_377 dX13_keepRow_8 ?_
    refine J_ltH hq (fun h2 hq => ?_)
    refine J_iconst (pc := 11) X (v := 0) (by decide) dX13_keepRow_11 ?_
    refine J_istore_n (pc := 12) X (L' := [(2, .inl 0), (0, .inr (.inr 155)), (1, .inl x1)]) (i := 2) rfl (by decide) rfl dX13_keepRow_12 ?_
    refine J_sub [1, 2, 0] rfl ?_
    refine tL_X13_keepRow_13 X _ _ N0 _ _ _ ?_ hq
    · intro h7 q hq
      refine J_iload_n (pc := 36) X (j := 0) (i := 1) rfl rfl dX13_keepRow_36 ?_
      obtain rfl := Option.some.inj hq
      exact J_iret (pc := 37) X dX13_keepRow_37
  · have hq := ite_f hq c1
    refine J_iconst (pc := 4) X (v := (-1)) (by decide) dX13_keepRow_4 ?_
    obtain rfl := Option.some.inj hq
    exact J_iret (pc := 5) X dX13_keepRow_5
theorem m_X13_keepRow (x1 : Int32) (h : Hp) (q : (Int32 × Hp)) (hq : f_X13_keepRow x1 h = some q) : ∀ l w, CT l w yX13_keepRow cX13_keepRow 3 (some .int) 1 [.inr (.inr 155), .inl x1] h (some (.inl q.1), q.2) :=
  CT_of (L0 := [(0, .inr (.inr 155)), (1, .inl x1)]) (by decide) rfl (Nat.le_of_ble_eq_true rfl) (fun κ X => tf_X13_keepRow X x1 h q  hq)
theorem tf_X13_find_ {κ : Kx} (X : OK κ cX13_find_ 2 (some .int) "StruckWordsModel" 5) (x1 : Int32) (h : Hp) (q : (Int32 × Hp)) (hq : f_X13_find_ x1 h = some q) : J κ 0 [(0, .inr (.inr 155)), (1, .inl x1)] [] h (some (.inl q.1), q.2) := by
  delta f_X13_find_ at hq
  refine J_aload_n (pc := 0) X (j := 0) (i := 0) rfl rfl dX13_find__0 ?_
  refine J_iconst (pc := 1) X (v := 0) (by decide) dX13_find__1 ?_
  refine J_putI (pc := 2) X ly155 fp_13_1 dX13_find__2 ?_
  refine J_ltH hq (fun h1 hq => ?_)
  refine J_aload_n (pc := 5) X (j := 0) (i := 0) rfl rfl dX13_find__5 ?_
  obtain ⟨v3, h2, hc, hq⟩ := bnd_e hq
  refine J_callV (pc := 6) (as := []) (st := []) (st2 := [.inl v3]) (r1 := (some (.inl v3), h2)) (h2 := h2) (ky := 3) X dX13_find__6 ca_X13_takesGoals ci_X13_takesGoals cs_X13_takesGoals ml_13_380 (by decide) ly155 rfl rfl (m_X13_takesGoals _ _ hc) rfl rfl (Nat.le_of_ble_eq_true rfl) rfl rfl ?_
  refine J_if_eq (pc := 9) (tgt := 22) X dX13_find__9 rfl (fun c4 => ?_) (fun c4 => ?_)
  · have hq := ite_t hq c4
    refine J_bipush (pc := 22) X (v := (-2)) (by decide) dX13_find__22 ?_
    obtain rfl := Option.some.inj hq
    exact J_iret (pc := 24) X dX13_find__24
  · have hq := ite_f hq c4
    refine J_iload_n (pc := 12) X (j := 1) (i := 1) rfl rfl dX13_find__12 ?_
    refine J_iconst (pc := 13) X (v := 1) (by decide) dX13_find__13 ?_
    refine J_bipush (pc := 14) X (v := 6) (by decide) dX13_find__14 ?_
    obtain ⟨v6, h5, hc, hq⟩ := bnd_e hq
    refine J_callS (pc := 16) (as := [.inl x1, .inl 1, .inl 6]) (st := []) (st2 := [.inl v6]) (r1 := (some (.inl v6), h5)) (h2 := h5) (ky := 1) X dX13_find__16 ca_X13_isIn cz_X13_isIn ml_13_204 (by decide) (m_X13_isIn _ _ _ _ _ hc) rfl rfl (Nat.le_of_ble_eq_true rfl) rfl rfl ?_
    refine J_if_ne (pc := 19) (tgt := 25) X dX13_find__19 rfl (fun c7 => ?_) (fun c7 => ?_)
    · have hq := ite_f hq c7
      refine J_aload_n (pc := 25) X (j := 0) (i := 0) rfl rfl dX13_find__25 ?_
      refine J_aload_n (pc := 26) X (j := 0) (i := 0) rfl rfl dX13_find__26 ?_
      refine J_iload_n (pc := 27) X (j := 1) (i := 1) rfl rfl dX13_find__27 ?_
      refine J_iconst (pc := 28) X (v := (-1)) (by decide) dX13_find__28 ?_
      obtain ⟨v9, h8, hc, hq⟩ := bnd_e hq
      refine J_callV (pc := 29) (as := [.inl x1, .inl (-1)]) (st := [.inr (.inr 155)]) (st2 := [.inl v9, .inr (.inr 155)]) (r1 := (some (.inl v9), h8)) (h2 := h8) (ky := 4) X dX13_find__29 ca_X13_shortest ci_X13_shortest cs_X13_shortest ml_13_383 (by decide) ly155 rfl rfl (m_X13_shortest _ _ _ _ hc) rfl rfl (Nat.le_of_ble_eq_true rfl) rfl rfl ?_
      obtain ⟨v11, h10, hc, hq⟩ := bnd_e hq
      refine J_callV (pc := 32) (as := [.inl v9]) (st := []) (st2 := [.inl v11]) (r1 := (some (.inl v11), h10)) (h2 := h10) (ky := 1) X dX13_find__32 ca_X13_keepRow ci_X13_keepRow cs_X13_keepRow ml_13_386 (by decide) ly155 rfl rfl (m_X13_keepRow _ _ _ hc) rfl rfl (Nat.le_of_ble_eq_true rfl) rfl rfl ?_
      obtain rfl := Option.some.inj hq
      exact J_iret (pc := 35) X dX13_find__35
    · have hq := ite_t hq c7
      refine J_bipush (pc := 22) X (v := (-2)) (by decide) dX13_find__22 ?_
      obtain rfl := Option.some.inj hq
      exact J_iret (pc := 24) X dX13_find__24
theorem m_X13_find_ (x1 : Int32) (h : Hp) (q : (Int32 × Hp)) (hq : f_X13_find_ x1 h = some q) : ∀ l w, CT l w yX13_find_ cX13_find_ 2 (some .int) 5 [.inr (.inr 155), .inl x1] h (some (.inl q.1), q.2) :=
  CT_of (L0 := [(0, .inr (.inr 155)), (1, .inl x1)]) (by decide) rfl (Nat.le_of_ble_eq_true rfl) (fun κ X => tf_X13_find_ X x1 h q  hq)
theorem tf_X13_verse {κ : Kx} (X : OK κ cX13_verse 3 (some .int) "StruckWordsModel" 5) (x1 : Int32) (x2 : Int32) (h : Hp) (q : (Int32 × Hp)) (hq : f_X13_verse x1 x2 h = some q) : J κ 0 [(0, .inr (.inr 155)), (1, .inl x1), (2, .inl x2)] [] h (some (.inl q.1), q.2) := by
  delta f_X13_verse at hq
  refine J_aload_n (pc := 0) X (j := 0) (i := 0) rfl rfl dX13_verse_0 ?_
  refine J_iconst (pc := 1) X (v := 0) (by decide) dX13_verse_1 ?_
  refine J_putI (pc := 2) X ly155 fp_13_1 dX13_verse_2 ?_
  refine J_ltH hq (fun h1 hq => ?_)
  refine J_aload_n (pc := 5) X (j := 0) (i := 0) rfl rfl dX13_verse_5 ?_
  obtain ⟨v3, h2, hc, hq⟩ := bnd_e hq
  refine J_callV (pc := 6) (as := []) (st := []) (st2 := [.inl v3]) (r1 := (some (.inl v3), h2)) (h2 := h2) (ky := 3) X dX13_verse_6 ca_X13_takesGoals ci_X13_takesGoals cs_X13_takesGoals ml_13_380 (by decide) ly155 rfl rfl (m_X13_takesGoals _ _ hc) rfl rfl (Nat.le_of_ble_eq_true rfl) rfl rfl ?_
  refine J_if_eq (pc := 9) (tgt := 32) X dX13_verse_9 rfl (fun c4 => ?_) (fun c4 => ?_)
  · have hq := ite_t hq c4
    refine J_bipush (pc := 32) X (v := (-2)) (by decide) dX13_verse_32 ?_
    obtain rfl := Option.some.inj hq
    exact J_iret (pc := 34) X dX13_verse_34
  · have hq := ite_f hq c4
    refine J_iload_n (pc := 12) X (j := 2) (i := 2) rfl rfl dX13_verse_12 ?_
    refine J_iconst (pc := 13) X (v := 1) (by decide) dX13_verse_13 ?_
    refine J_bipush (pc := 14) X (v := 6) (by decide) dX13_verse_14 ?_
    obtain ⟨v6, h5, hc, hq⟩ := bnd_e hq
    refine J_callS (pc := 16) (as := [.inl x2, .inl 1, .inl 6]) (st := []) (st2 := [.inl v6]) (r1 := (some (.inl v6), h5)) (h2 := h5) (ky := 1) X dX13_verse_16 ca_X13_isIn cz_X13_isIn ml_13_204 (by decide) (m_X13_isIn _ _ _ _ _ hc) rfl rfl (Nat.le_of_ble_eq_true rfl) rfl rfl ?_
    refine J_if_eq (pc := 19) (tgt := 32) X dX13_verse_19 rfl (fun c7 => ?_) (fun c7 => ?_)
    · have hq := ite_t hq c7
      refine J_bipush (pc := 32) X (v := (-2)) (by decide) dX13_verse_32 ?_
      obtain rfl := Option.some.inj hq
      exact J_iret (pc := 34) X dX13_verse_34
    · have hq := ite_f hq c7
      refine J_iload_n (pc := 22) X (j := 1) (i := 1) rfl rfl dX13_verse_22 ?_
      refine J_iconst (pc := 23) X (v := 0) (by decide) dX13_verse_23 ?_
      refine J_bipush (pc := 24) X (v := 54) (by decide) dX13_verse_24 ?_
      obtain ⟨v9, h8, hc, hq⟩ := bnd_e hq
      refine J_callS (pc := 26) (as := [.inl x1, .inl 0, .inl 54]) (st := []) (st2 := [.inl v9]) (r1 := (some (.inl v9), h8)) (h2 := h8) (ky := 1) X dX13_verse_26 ca_X13_isIn cz_X13_isIn ml_13_204 (by decide) (m_X13_isIn _ _ _ _ _ hc) rfl rfl (Nat.le_of_ble_eq_true rfl) rfl rfl ?_
      refine J_if_ne (pc := 29) (tgt := 35) X dX13_verse_29 rfl (fun c10 => ?_) (fun c10 => ?_)
      · have hq := ite_f hq c10
        refine J_aload_n (pc := 35) X (j := 0) (i := 0) rfl rfl dX13_verse_35 ?_
        refine J_aload_n (pc := 36) X (j := 0) (i := 0) rfl rfl dX13_verse_36 ?_
        refine J_iload_n (pc := 37) X (j := 2) (i := 2) rfl rfl dX13_verse_37 ?_
        refine J_iload_n (pc := 38) X (j := 1) (i := 1) rfl rfl dX13_verse_38 ?_
        obtain ⟨v12, h11, hc, hq⟩ := bnd_e hq
        refine J_callV (pc := 39) (as := [.inl x2, .inl x1]) (st := [.inr (.inr 155)]) (st2 := [.inl v12, .inr (.inr 155)]) (r1 := (some (.inl v12), h11)) (h2 := h11) (ky := 4) X dX13_verse_39 ca_X13_shortest ci_X13_shortest cs_X13_shortest ml_13_383 (by decide) ly155 rfl rfl (m_X13_shortest _ _ _ _ hc) rfl rfl (Nat.le_of_ble_eq_true rfl) rfl rfl ?_
        obtain ⟨v14, h13, hc, hq⟩ := bnd_e hq
        refine J_callV (pc := 42) (as := [.inl v12]) (st := []) (st2 := [.inl v14]) (r1 := (some (.inl v14), h13)) (h2 := h13) (ky := 1) X dX13_verse_42 ca_X13_keepRow ci_X13_keepRow cs_X13_keepRow ml_13_386 (by decide) ly155 rfl rfl (m_X13_keepRow _ _ _ hc) rfl rfl (Nat.le_of_ble_eq_true rfl) rfl rfl ?_
        obtain rfl := Option.some.inj hq
        exact J_iret (pc := 45) X dX13_verse_45
      · have hq := ite_t hq c10
        refine J_bipush (pc := 32) X (v := (-2)) (by decide) dX13_verse_32 ?_
        obtain rfl := Option.some.inj hq
        exact J_iret (pc := 34) X dX13_verse_34
theorem m_X13_verse (x1 : Int32) (x2 : Int32) (h : Hp) (q : (Int32 × Hp)) (hq : f_X13_verse x1 x2 h = some q) : ∀ l w, CT l w yX13_verse cX13_verse 3 (some .int) 5 [.inr (.inr 155), .inl x1, .inl x2] h (some (.inl q.1), q.2) :=
  CT_of (L0 := [(0, .inr (.inr 155)), (1, .inl x1), (2, .inl x2)]) (by decide) rfl (Nat.le_of_ble_eq_true rfl) (fun κ X => tf_X13_verse X x1 x2 h q  hq)
theorem tF_X13_cheapest_51 {κ : Kx} (X : OK κ cX13_cheapest 6 (some .int) "StruckWordsModel" 4) (x1 : Int32) (x2 : Int32) (x3 : Int32) (k83 : Int32 → Hp → Option (Int32 × Hp)) (self : Int32 → Int32 → Hp → Option (Int32 × Hp)) (x4 : Int32) (x5 : Int32) (h : Hp) (q : (Int32 × Hp)) (hk83 : ∀ (x4 : Int32) (h : Hp) (q : (Int32 × Hp)), k83 x4 h = some q → J κ 83 [(0, .inr (.inr 155)), (1, .inl x1), (2, .inl x2), (3, .inl x3), (4, .inl x4)] [] h (some (.inl q.1), q.2)) (hself : ∀ (x4 : Int32) (x5 : Int32) (h : Hp) (q : (Int32 × Hp)), self x4 x5 h = some q → J κ 51 [(0, .inr (.inr 155)), (1, .inl x1), (2, .inl x2), (3, .inl x3), (4, .inl x4), (5, .inl x5)] [] h (some (.inl q.1), q.2)) (hq : F_X13_cheapest_51 x1 x2 x3 k83 self x4 x5 h = some q) : J κ 51 [(0, .inr (.inr 155)), (1, .inl x1), (2, .inl x2), (3, .inl x3), (4, .inl x4), (5, .inl x5)] [] h (some (.inl q.1), q.2) := by
  delta F_X13_cheapest_51 at hq
  refine J_iload (pc := 51) X (j := 5) rfl dX13_cheapest_51 ?_
  refine J_iload_n (pc := 53) X (j := 3) (i := 3) rfl rfl dX13_cheapest_53 ?_
  refine J_icmp_ge (pc := 54) (tgt := 83) X dX13_cheapest_54 rfl (fun c13 => ?_) (fun c13 => ?_)
  · have hq := ite_t hq c13
    refine J_sub [0, 1, 2, 3, 4] rfl ?_
    exact hk83 _ _ _ hq
  · have hq := ite_f hq c13
    refine J_iload (pc := 57) X (j := 4) rfl dX13_cheapest_57 ?_
    refine J_aload_n (pc := 59) X (j := 0) (i := 0) rfl rfl dX13_cheapest_59 ?_
    refine J_getF (pc := 60) X (b := 157) ly155 fl_13_33 rfl dX13_cheapest_60 ?_
    refine J_bipush (pc := 63) X (v := 56) (by decide) dX13_cheapest_63 ?_
    refine J_aload_n (pc := 65) X (j := 0) (i := 0) rfl rfl dX13_cheapest_65 ?_
    refine J_getF (pc := 66) X (b := 174) ly155 fl_13_90 rfl dX13_cheapest_66 ?_
    refine J_iload (pc := 69) X (j := 5) rfl dX13_cheapest_69 ?_
    obtain ⟨g14, hq⟩ := gd hq
    refine J_iaload (pc := 71) X ly174 g14 dX13_cheapest_71 ?_
    refine J_iadd (pc := 72) X dX13_cheapest_72 ?_
    obtain ⟨g15, hq⟩ := gd hq
    refine J_iaload (pc := 73) X ly157 g15 dX13_cheapest_73 ?_
    refine J_iadd (pc := 74) X dX13_cheapest_74 ?_
    refine J_ltI hq (fun v16 hq => ?_)
    refine J_istore (pc := 75) X (L' := [(4, .inl v16), (0, .inr (.inr 155)), (1, .inl x1), (2, .inl x2), (3, .inl x3), (5, .inl x5)]) (by decide) rfl dX13_cheapest_75 ?_
    refine J_iinc (pc := 77) X (j := 5) (v := 1) (L' := [(5, .inl (x5 + 1)), (4, .inl v16), (0, .inr (.inr 155)), (1, .inl x1), (2, .inl x2), (3, .inl x3)]) rfl (by decide) (by decide) rfl dX13_cheapest_77 ?_
    refine J_goto (pc := 80) X (tgt := 51) dX13_cheapest_80 rfl ?_
    refine J_sub [2, 3, 4, 5, 1, 0] rfl ?_
    exact hself _ _ _ _ hq
theorem tL_X13_cheapest_51 {κ : Kx} (X : OK κ cX13_cheapest 6 (some .int) "StruckWordsModel" 4) (x1 : Int32) (x2 : Int32) (x3 : Int32) (k83 : Int32 → Hp → Option (Int32 × Hp)) (N : Nat) (x4 : Int32) (x5 : Int32) (h : Hp) (q : (Int32 × Hp)) (hk83 : ∀ (x4 : Int32) (h : Hp) (q : (Int32 × Hp)), k83 x4 h = some q → J κ 83 [(0, .inr (.inr 155)), (1, .inl x1), (2, .inl x2), (3, .inl x3), (4, .inl x4)] [] h (some (.inl q.1), q.2)) (hq : itr3 (F_X13_cheapest_51 x1 x2 x3 k83) N x4 x5 h = some q) : J κ 51 [(0, .inr (.inr 155)), (1, .inl x1), (2, .inl x2), (3, .inl x3), (4, .inl x4), (5, .inl x5)] [] h (some (.inl q.1), q.2) :=
  itr3_ind (fun self hs x4 x5 h q hq => tF_X13_cheapest_51 X x1 x2 x3 k83 self x4 x5 h q hk83 hs hq) N x4 x5 h q hq
theorem tB_X13_cheapest_93 {κ : Kx} (X : OK κ cX13_cheapest 6 (some .int) "StruckWordsModel" 4) (x1 : Int32) (x3 : Int32) (k115 : Int32 → Hp → Option (Int32 × Hp)) (self : Int32 → Hp → Option (Int32 × Hp)) (x2 : Int32) (x4 : Int32) (h : Hp) (q : (Int32 × Hp)) (hk115 : ∀ (x2 : Int32) (h : Hp) (q : (Int32 × Hp)), k115 x2 h = some q → J κ 115 [(0, .inr (.inr 155)), (1, .inl x1), (2, .inl x2), (3, .inl x3)] [] h (some (.inl q.1), q.2)) (hself : ∀ (x2 : Int32) (h : Hp) (q : (Int32 × Hp)), self x2 h = some q → J κ 38 [(0, .inr (.inr 155)), (1, .inl x1), (2, .inl x2), (3, .inl x3)] [] h (some (.inl q.1), q.2)) (hq : B_X13_cheapest_93 x1 x3 k115 self x2 x4 h = some q) : J κ 93 [(0, .inr (.inr 155)), (1, .inl x1), (2, .inl x2), (3, .inl x3), (4, .inl x4)] [] h (some (.inl q.1), q.2) := by
  delta B_X13_cheapest_93 at hq
  refine J_aload_n (pc := 93) X (j := 0) (i := 0) rfl rfl dX13_cheapest_93 ?_
  obtain ⟨v21, h20, hc, hq⟩ := bnd_e hq
  refine J_callV (pc := 94) (as := []) (st := []) (st2 := [.inl v21]) (r1 := (some (.inl v21), h20)) (h2 := h20) (ky := 3) X dX13_cheapest_94 ca_X13_meetsGoals ci_X13_meetsGoals cs_X13_meetsGoals ml_13_374 (by decide) ly155 rfl rfl (m_X13_meetsGoals _ _ hc) rfl rfl (Nat.le_of_ble_eq_true rfl) rfl rfl ?_
  refine J_if_ne (pc := 97) (tgt := 103) X dX13_cheapest_97 rfl (fun c22 => ?_) (fun c22 => ?_)
  · have hq := ite_f hq c22
    refine J_iload (pc := 103) X (j := 4) rfl dX13_cheapest_103 ?_
    refine J_istore_n (pc := 105) X (L' := [(2, .inl x4), (0, .inr (.inr 155)), (1, .inl x1), (3, .inl x3), (4, .inl x4)]) (i := 2) rfl (by decide) rfl dX13_cheapest_105 ?_
    refine J_aload_n (pc := 106) X (j := 1) (i := 0) rfl rfl dX13_cheapest_106 ?_
    refine J_iload_n (pc := 107) X (j := 3) (i := 3) rfl rfl dX13_cheapest_107 ?_
    obtain ⟨v24, h23, hc, hq⟩ := bnd_e hq
    refine J_callV (pc := 108) (as := [.inl x3]) (st := []) (st2 := [.inl v24]) (r1 := (some (.inl v24), h23)) (h2 := h23) (ky := 1) X dX13_cheapest_108 ca_X13_keepRow ci_X13_keepRow cs_X13_keepRow ml_13_386 (by decide) ly155 rfl rfl (m_X13_keepRow _ _ _ hc) rfl rfl (Nat.le_of_ble_eq_true rfl) rfl rfl ?_
    refine J_pop (pc := 111) X rfl dX13_cheapest_111 ?_
    refine J_goto (pc := 112) X (tgt := 38) dX13_cheapest_112 rfl ?_
    refine J_sub [1, 2, 0, 3] rfl ?_
    exact hself _ _ _ hq
  · have hq := ite_t hq c22
    refine J_goto (pc := 100) X (tgt := 38) dX13_cheapest_100 rfl ?_
    refine J_sub [0, 1, 2, 3] rfl ?_
    exact hself _ _ _ hq
theorem tF_X13_cheapest_38 {κ : Kx} (X : OK κ cX13_cheapest 6 (some .int) "StruckWordsModel" 4) (x1 : Int32) (x3 : Int32) (k115 : Int32 → Hp → Option (Int32 × Hp)) (self : Int32 → Hp → Option (Int32 × Hp)) (x2 : Int32) (h : Hp) (q : (Int32 × Hp)) (hk115 : ∀ (x2 : Int32) (h : Hp) (q : (Int32 × Hp)), k115 x2 h = some q → J κ 115 [(0, .inr (.inr 155)), (1, .inl x1), (2, .inl x2), (3, .inl x3)] [] h (some (.inl q.1), q.2)) (hself : ∀ (x2 : Int32) (h : Hp) (q : (Int32 × Hp)), self x2 h = some q → J κ 38 [(0, .inr (.inr 155)), (1, .inl x1), (2, .inl x2), (3, .inl x3)] [] h (some (.inl q.1), q.2)) (hq : F_X13_cheapest_38 x1 x3 k115 self x2 h = some q) : J κ 38 [(0, .inr (.inr 155)), (1, .inl x1), (2, .inl x2), (3, .inl x3)] [] h (some (.inl q.1), q.2) := by
  delta F_X13_cheapest_38 at hq
  refine J_aload_n (pc := 38) X (j := 0) (i := 0) rfl rfl dX13_cheapest_38 ?_
  obtain ⟨v11, h10, hc, hq⟩ := bnd_e hq
  refine J_callV (pc := 39) (as := []) (st := []) (st2 := [.inl v11]) (r1 := (some (.inl v11), h10)) (h2 := h10) (ky := 3) X dX13_cheapest_39 ca_X13_nextRow ci_X13_nextRow cs_X13_nextRow ml_13_368 (by decide) ly155 rfl rfl (m_X13_nextRow _ _ hc) rfl rfl (Nat.le_of_ble_eq_true rfl) rfl rfl ?_
  refine J_if_eq (pc := 42) (tgt := 115) X dX13_cheapest_42 rfl (fun c12 => ?_) (fun c12 => ?_)
  · have hq := ite_t hq c12
    exact hk115 _ _ _ hq
  · have hq := ite_f hq c12
    refine J_iconst (pc := 45) X (v := 0) (by decide) dX13_cheapest_45 ?_
    refine J_istore (pc := 46) X (L' := [(4, .inl 0), (0, .inr (.inr 155)), (1, .inl x1), (2, .inl x2), (3, .inl x3)]) (by decide) rfl dX13_cheapest_46 ?_
    refine J_iconst (pc := 48) X (v := 0) (by decide) dX13_cheapest_48 ?_
    refine J_istore (pc := 49) X (L' := [(5, .inl 0), (4, .inl 0), (0, .inr (.inr 155)), (1, .inl x1), (2, .inl x2), (3, .inl x3)]) (by decide) rfl dX13_cheapest_49 ?_
    refine J_sub [2, 3, 4, 5, 1, 0] rfl ?_
    refine tL_X13_cheapest_51 X _ _ _ _ N0 _ _ _ _ ?_ hq
    · intro v18 h17 q hq
      refine J_iload_n (pc := 83) X (j := 2) (i := 2) rfl rfl dX13_cheapest_83 ?_
      refine J_if_lt (pc := 84) (tgt := 93) X dX13_cheapest_84 rfl (fun c19 => ?_) (fun c19 => ?_)
      · have hq := ite_t hq c19
        exact tB_X13_cheapest_93 X _ _ _ _ _ _ _ _ hk115 hself hq
      · have hq := ite_f hq c19
        refine J_iload (pc := 87) X (j := 4) rfl dX13_cheapest_87 ?_
        refine J_iload_n (pc := 89) X (j := 2) (i := 2) rfl rfl dX13_cheapest_89 ?_
        refine J_icmp_ge (pc := 90) (tgt := 38) X dX13_cheapest_90 rfl (fun c25 => ?_) (fun c25 => ?_)
        · have hq := ite_t hq c25
          refine J_sub [0, 1, 2, 3] rfl ?_
          exact hself _ _ _ hq
        · have hq := ite_f hq c25
          exact tB_X13_cheapest_93 X _ _ _ _ _ _ _ _ hk115 hself hq
theorem tL_X13_cheapest_38 {κ : Kx} (X : OK κ cX13_cheapest 6 (some .int) "StruckWordsModel" 4) (x1 : Int32) (x3 : Int32) (k115 : Int32 → Hp → Option (Int32 × Hp)) (N : Nat) (x2 : Int32) (h : Hp) (q : (Int32 × Hp)) (hk115 : ∀ (x2 : Int32) (h : Hp) (q : (Int32 × Hp)), k115 x2 h = some q → J κ 115 [(0, .inr (.inr 155)), (1, .inl x1), (2, .inl x2), (3, .inl x3)] [] h (some (.inl q.1), q.2)) (hq : itr2 (F_X13_cheapest_38 x1 x3 k115) N x2 h = some q) : J κ 38 [(0, .inr (.inr 155)), (1, .inl x1), (2, .inl x2), (3, .inl x3)] [] h (some (.inl q.1), q.2) :=
  itr2_ind (fun self hs x2 h q hq => tF_X13_cheapest_38 X x1 x3 k115 self x2 h q hk115 hs hq) N x2 h q hq
theorem tF_X13_cheapest_28 {κ : Kx} (X : OK κ cX13_cheapest 6 (some .int) "StruckWordsModel" 4) (x1 : Int32) (k121 : Int32 → Hp → Option (Int32 × Hp)) (self : Int32 → Int32 → Hp → Option (Int32 × Hp)) (x2 : Int32) (x3 : Int32) (h : Hp) (q : (Int32 × Hp)) (hk121 : ∀ (x2 : Int32) (h : Hp) (q : (Int32 × Hp)), k121 x2 h = some q → J κ 121 [(2, .inl x2)] [] h (some (.inl q.1), q.2)) (hself : ∀ (x2 : Int32) (x3 : Int32) (h : Hp) (q : (Int32 × Hp)), self x2 x3 h = some q → J κ 28 [(0, .inr (.inr 155)), (1, .inl x1), (2, .inl x2), (3, .inl x3)] [] h (some (.inl q.1), q.2)) (hq : F_X13_cheapest_28 x1 k121 self x2 x3 h = some q) : J κ 28 [(0, .inr (.inr 155)), (1, .inl x1), (2, .inl x2), (3, .inl x3)] [] h (some (.inl q.1), q.2) := by
  delta F_X13_cheapest_28 at hq
  refine J_iload_n (pc := 28) X (j := 3) (i := 3) rfl rfl dX13_cheapest_28 ?_
  refine J_iload_n (pc := 29) X (j := 1) (i := 1) rfl rfl dX13_cheapest_29 ?_
  refine J_icmp_gt (pc := 30) (tgt := 121) X dX13_cheapest_30 rfl (fun c8 => ?_) (fun c8 => ?_)
  · have hq := ite_t hq c8
    refine J_sub [2] rfl ?_
    exact hk121 _ _ _ hq
  · have hq := ite_f hq c8
    refine J_aload_n (pc := 33) X (j := 0) (i := 0) rfl rfl dX13_cheapest_33 ?_
    refine J_iload_n (pc := 34) X (j := 3) (i := 3) rfl rfl dX13_cheapest_34 ?_
    obtain ⟨h9, hc, hq⟩ := bnv_e hq
    refine J_callV (pc := 35) (as := [.inl x3]) (st := []) (st2 := []) (r1 := (none, h9)) (h2 := h9) (ky := 1) X dX13_cheapest_35 ca_X13_begin ci_X13_begin cs_X13_begin ml_13_365 (by decide) ly155 rfl rfl (m_X13_begin _ _ _ hc) rfl rfl (Nat.le_of_ble_eq_true rfl) rfl rfl ?_
    refine tL_X13_cheapest_38 X _ _ _ N0 _ _ _ ?_ hq
    · intro v27 h26 q hq
      refine J_iinc (pc := 115) X (j := 3) (v := 1) (L' := [(3, .inl (x3 + 1)), (0, .inr (.inr 155)), (1, .inl x1), (2, .inl v27)]) rfl (by decide) (by decide) rfl dX13_cheapest_115 ?_
      refine J_goto (pc := 118) X (tgt := 28) dX13_cheapest_118 rfl ?_
      refine J_sub [1, 2, 3, 0] rfl ?_
      exact hself _ _ _ _ hq
theorem tL_X13_cheapest_28 {κ : Kx} (X : OK κ cX13_cheapest 6 (some .int) "StruckWordsModel" 4) (x1 : Int32) (k121 : Int32 → Hp → Option (Int32 × Hp)) (N : Nat) (x2 : Int32) (x3 : Int32) (h : Hp) (q : (Int32 × Hp)) (hk121 : ∀ (x2 : Int32) (h : Hp) (q : (Int32 × Hp)), k121 x2 h = some q → J κ 121 [(2, .inl x2)] [] h (some (.inl q.1), q.2)) (hq : itr3 (F_X13_cheapest_28 x1 k121) N x2 x3 h = some q) : J κ 28 [(0, .inr (.inr 155)), (1, .inl x1), (2, .inl x2), (3, .inl x3)] [] h (some (.inl q.1), q.2) :=
  itr3_ind (fun self hs x2 x3 h q hq => tF_X13_cheapest_28 X x1 k121 self x2 x3 h q hk121 hs hq) N x2 x3 h q hq
theorem tf_X13_cheapest {κ : Kx} (X : OK κ cX13_cheapest 6 (some .int) "StruckWordsModel" 4) (x1 : Int32) (h : Hp) (q : (Int32 × Hp)) (hq : f_X13_cheapest x1 h = some q) : J κ 0 [(0, .inr (.inr 155)), (1, .inl x1)] [] h (some (.inl q.1), q.2) := by
  delta f_X13_cheapest at hq
  refine J_aload_n (pc := 0) X (j := 0) (i := 0) rfl rfl dX13_cheapest_0 ?_
  refine J_iconst (pc := 1) X (v := 0) (by decide) dX13_cheapest_1 ?_
  refine J_putI (pc := 2) X ly155 fp_13_1 dX13_cheapest_2 ?_
  refine J_ltH hq (fun h1 hq => ?_)
  refine J_aload_n (pc := 5) X (j := 0) (i := 0) rfl rfl dX13_cheapest_5 ?_
  obtain ⟨v3, h2, hc, hq⟩ := bnd_e hq
  refine J_callV (pc := 6) (as := []) (st := []) (st2 := [.inl v3]) (r1 := (some (.inl v3), h2)) (h2 := h2) (ky := 3) X dX13_cheapest_6 ca_X13_takesGoals ci_X13_takesGoals cs_X13_takesGoals ml_13_380 (by decide) ly155 rfl rfl (m_X13_takesGoals _ _ hc) rfl rfl (Nat.le_of_ble_eq_true rfl) rfl rfl ?_
  refine J_if_eq (pc := 9) (tgt := 21) X dX13_cheapest_9 rfl (fun c4 => ?_) (fun c4 => ?_)
  · have hq := ite_t hq c4
    refine J_bipush (pc := 21) X (v := (-2)) (by decide) dX13_cheapest_21 ?_
    obtain rfl := Option.some.inj hq
    exact J_iret (pc := 23) X dX13_cheapest_23
  · have hq := ite_f hq c4
    refine J_iload_n (pc := 12) X (j := 1) (i := 1) rfl rfl dX13_cheapest_12 ?_
    refine J_iconst (pc := 13) X (v := 1) (by decide) dX13_cheapest_13 ?_
    refine J_iconst (pc := 14) X (v := 5) (by decide) dX13_cheapest_14 ?_
    obtain ⟨v6, h5, hc, hq⟩ := bnd_e hq
    refine J_callS (pc := 15) (as := [.inl x1, .inl 1, .inl 5]) (st := []) (st2 := [.inl v6]) (r1 := (some (.inl v6), h5)) (h2 := h5) (ky := 1) X dX13_cheapest_15 ca_X13_isIn cz_X13_isIn ml_13_204 (by decide) (m_X13_isIn _ _ _ _ _ hc) rfl rfl (Nat.le_of_ble_eq_true rfl) rfl rfl ?_
    refine J_if_ne (pc := 18) (tgt := 24) X dX13_cheapest_18 rfl (fun c7 => ?_) (fun c7 => ?_)
    · have hq := ite_f hq c7
      refine J_iconst (pc := 24) X (v := (-1)) (by decide) dX13_cheapest_24 ?_
      refine J_istore_n (pc := 25) X (L' := [(2, .inl (-1)), (0, .inr (.inr 155)), (1, .inl x1)]) (i := 2) rfl (by decide) rfl dX13_cheapest_25 ?_
      refine J_iconst (pc := 26) X (v := 1) (by decide) dX13_cheapest_26 ?_
      refine J_istore_n (pc := 27) X (L' := [(3, .inl 1), (2, .inl (-1)), (0, .inr (.inr 155)), (1, .inl x1)]) (i := 3) rfl (by decide) rfl dX13_cheapest_27 ?_
      refine J_sub [2, 3, 1, 0] rfl ?_
      refine tL_X13_cheapest_28 X _ _ N0 _ _ _ _ ?_ hq
      · intro v29 h28 q hq
        refine J_iload_n (pc := 121) X (j := 0) (i := 2) rfl rfl dX13_cheapest_121 ?_
        obtain rfl := Option.some.inj hq
        exact J_iret (pc := 122) X dX13_cheapest_122
    · have hq := ite_t hq c7
      refine J_bipush (pc := 21) X (v := (-2)) (by decide) dX13_cheapest_21 ?_
      obtain rfl := Option.some.inj hq
      exact J_iret (pc := 23) X dX13_cheapest_23
theorem m_X13_cheapest (x1 : Int32) (h : Hp) (q : (Int32 × Hp)) (hq : f_X13_cheapest x1 h = some q) : ∀ l w, CT l w yX13_cheapest cX13_cheapest 6 (some .int) 4 [.inr (.inr 155), .inl x1] h (some (.inl q.1), q.2) :=
  CT_of (L0 := [(0, .inr (.inr 155)), (1, .inl x1)]) (by decide) rfl (Nat.le_of_ble_eq_true rfl) (fun κ X => tf_X13_cheapest X x1 h q  hq)
theorem tB_X13_longer_66 {κ : Kx} (X : OK κ cX13_longer 5 (some .int) "StruckWordsModel" 5) (x1 : Int32) (x2 : Int32) (k73 : Hp → Option (Int32 × Hp)) (self : Int32 → Hp → Option (Int32 × Hp)) (x3 : Int32) (t0 : Int32) (t1 : Int32) (h : Hp) (q : (Int32 × Hp)) (hk73 : ∀ (h : Hp) (q : (Int32 × Hp)), k73 h = some q → J κ 73 [(0, .inr (.inr 155)), (1, .inl x1), (2, .inl x2)] [] h (some (.inl q.1), q.2)) (hself : ∀ (x3 : Int32) (h : Hp) (q : (Int32 × Hp)), self x3 h = some q → J κ 43 [(0, .inr (.inr 155)), (1, .inl x1), (2, .inl x2), (3, .inl x3)] [] h (some (.inl q.1), q.2)) (hq : B_X13_longer_66 x1 x2 k73 self x3 t0 t1 h = some q) : J κ 66 [(0, .inr (.inr 155)), (1, .inl x1), (2, .inl x2), (3, .inl x3)] [.inl t0, .inl t1, .inr (.inr 172)] h (some (.inl q.1), q.2) := by
  delta B_X13_longer_66 at hq
  obtain ⟨g12, hq⟩ := gd hq
  refine J_iastore (pc := 66) X ly172 g12 dX13_longer_66 ?_
  refine J_ltH hq (fun h13 hq => ?_)
  refine J_iinc (pc := 67) X (j := 3) (v := 1) (L' := [(3, .inl (x3 + 1)), (0, .inr (.inr 155)), (1, .inl x1), (2, .inl x2)]) rfl (by decide) (by decide) rfl dX13_longer_67 ?_
  refine J_goto (pc := 70) X (tgt := 43) dX13_longer_70 rfl ?_
  refine J_sub [1, 2, 3, 0] rfl ?_
  exact hself _ _ _ hq
theorem tF_X13_longer_43 {κ : Kx} (X : OK κ cX13_longer 5 (some .int) "StruckWordsModel" 5) (x1 : Int32) (x2 : Int32) (k73 : Hp → Option (Int32 × Hp)) (self : Int32 → Hp → Option (Int32 × Hp)) (x3 : Int32) (h : Hp) (q : (Int32 × Hp)) (hk73 : ∀ (h : Hp) (q : (Int32 × Hp)), k73 h = some q → J κ 73 [(0, .inr (.inr 155)), (1, .inl x1), (2, .inl x2)] [] h (some (.inl q.1), q.2)) (hself : ∀ (x3 : Int32) (h : Hp) (q : (Int32 × Hp)), self x3 h = some q → J κ 43 [(0, .inr (.inr 155)), (1, .inl x1), (2, .inl x2), (3, .inl x3)] [] h (some (.inl q.1), q.2)) (hq : F_X13_longer_43 x1 x2 k73 self x3 h = some q) : J κ 43 [(0, .inr (.inr 155)), (1, .inl x1), (2, .inl x2), (3, .inl x3)] [] h (some (.inl q.1), q.2) := by
  delta F_X13_longer_43 at hq
  refine J_iload_n (pc := 43) X (j := 3) (i := 3) rfl rfl dX13_longer_43 ?_
  refine J_aload_n (pc := 44) X (j := 0) (i := 0) rfl rfl dX13_longer_44 ?_
  refine J_getI (pc := 45) X ly155 fl_13_294 dX13_longer_45 ?_
  refine J_icmp_gt (pc := 48) (tgt := 73) X dX13_longer_48 rfl (fun c10 => ?_) (fun c10 => ?_)
  · have hq := ite_t hq c10
    refine J_sub [0, 1, 2] rfl ?_
    exact hk73 _ _ hq
  · have hq := ite_f hq c10
    refine J_aload_n (pc := 51) X (j := 0) (i := 0) rfl rfl dX13_longer_51 ?_
    refine J_getF (pc := 52) X (b := 172) ly155 fl_13_84 rfl dX13_longer_52 ?_
    refine J_iload_n (pc := 55) X (j := 3) (i := 3) rfl rfl dX13_longer_55 ?_
    refine J_iload_n (pc := 56) X (j := 3) (i := 3) rfl rfl dX13_longer_56 ?_
    refine J_if_ne (pc := 57) (tgt := 65) X dX13_longer_57 rfl (fun c11 => ?_) (fun c11 => ?_)
    · have hq := ite_f hq c11
      refine J_iload_n (pc := 65) X (j := 1) (i := 1) rfl rfl dX13_longer_65 ?_
      exact tB_X13_longer_66 X _ _ _ _ _ _ _ _ _ hk73 hself hq
    · have hq := ite_t hq c11
      refine J_bipush (pc := 60) X (v := 9) (by decide) dX13_longer_60 ?_
      refine J_goto (pc := 62) X (tgt := 66) dX13_longer_62 rfl ?_
      exact tB_X13_longer_66 X _ _ _ _ _ _ _ _ _ hk73 hself hq
theorem tL_X13_longer_43 {κ : Kx} (X : OK κ cX13_longer 5 (some .int) "StruckWordsModel" 5) (x1 : Int32) (x2 : Int32) (k73 : Hp → Option (Int32 × Hp)) (N : Nat) (x3 : Int32) (h : Hp) (q : (Int32 × Hp)) (hk73 : ∀ (h : Hp) (q : (Int32 × Hp)), k73 h = some q → J κ 73 [(0, .inr (.inr 155)), (1, .inl x1), (2, .inl x2)] [] h (some (.inl q.1), q.2)) (hq : itr2 (F_X13_longer_43 x1 x2 k73) N x3 h = some q) : J κ 43 [(0, .inr (.inr 155)), (1, .inl x1), (2, .inl x2), (3, .inl x3)] [] h (some (.inl q.1), q.2) :=
  itr2_ind (fun self hs x3 h q hq => tF_X13_longer_43 X x1 x2 k73 self x3 h q hk73 hs hq) N x3 h q hq
theorem tB_X13_longer_109 {κ : Kx} (X : OK κ cX13_longer 5 (some .int) "StruckWordsModel" 5) (x1 : Int32) (x2 : Int32) (x3 : Int32) (k116 : Hp → Option (Int32 × Hp)) (self : Int32 → Hp → Option (Int32 × Hp)) (x4 : Int32) (t0 : Int32) (t1 : Int32) (h : Hp) (q : (Int32 × Hp)) (hk116 : ∀ (h : Hp) (q : (Int32 × Hp)), k116 h = some q → J κ 116 [(0, .inr (.inr 155)), (2, .inl x2), (3, .inl x3)] [] h (some (.inl q.1), q.2)) (hself : ∀ (x4 : Int32) (h : Hp) (q : (Int32 × Hp)), self x4 h = some q → J κ 83 [(0, .inr (.inr 155)), (1, .inl x1), (2, .inl x2), (3, .inl x3), (4, .inl x4)] [] h (some (.inl q.1), q.2)) (hq : B_X13_longer_109 x1 x2 x3 k116 self x4 t0 t1 h = some q) : J κ 109 [(0, .inr (.inr 155)), (1, .inl x1), (2, .inl x2), (3, .inl x3), (4, .inl x4)] [.inl t0, .inl t1, .inr (.inr 172)] h (some (.inl q.1), q.2) := by
  delta B_X13_longer_109 at hq
  obtain ⟨g19, hq⟩ := gd hq
  refine J_iastore (pc := 109) X ly172 g19 dX13_longer_109 ?_
  refine J_ltH hq (fun h20 hq => ?_)
  refine J_iinc (pc := 110) X (j := 4) (v := 1) (L' := [(4, .inl (x4 + 1)), (0, .inr (.inr 155)), (1, .inl x1), (2, .inl x2), (3, .inl x3)]) rfl (by decide) (by decide) rfl dX13_longer_110 ?_
  refine J_goto (pc := 113) X (tgt := 83) dX13_longer_113 rfl ?_
  refine J_sub [1, 2, 3, 4, 0] rfl ?_
  exact hself _ _ _ hq
theorem tF_X13_longer_83 {κ : Kx} (X : OK κ cX13_longer 5 (some .int) "StruckWordsModel" 5) (x1 : Int32) (x2 : Int32) (x3 : Int32) (k116 : Hp → Option (Int32 × Hp)) (self : Int32 → Hp → Option (Int32 × Hp)) (x4 : Int32) (h : Hp) (q : (Int32 × Hp)) (hk116 : ∀ (h : Hp) (q : (Int32 × Hp)), k116 h = some q → J κ 116 [(0, .inr (.inr 155)), (2, .inl x2), (3, .inl x3)] [] h (some (.inl q.1), q.2)) (hself : ∀ (x4 : Int32) (h : Hp) (q : (Int32 × Hp)), self x4 h = some q → J κ 83 [(0, .inr (.inr 155)), (1, .inl x1), (2, .inl x2), (3, .inl x3), (4, .inl x4)] [] h (some (.inl q.1), q.2)) (hq : F_X13_longer_83 x1 x2 x3 k116 self x4 h = some q) : J κ 83 [(0, .inr (.inr 155)), (1, .inl x1), (2, .inl x2), (3, .inl x3), (4, .inl x4)] [] h (some (.inl q.1), q.2) := by
  delta F_X13_longer_83 at hq
  refine J_iload (pc := 83) X (j := 4) rfl dX13_longer_83 ?_
  refine J_aload_n (pc := 85) X (j := 0) (i := 0) rfl rfl dX13_longer_85 ?_
  refine J_getI (pc := 86) X ly155 fl_13_294 dX13_longer_86 ?_
  refine J_icmp_gt (pc := 89) (tgt := 116) X dX13_longer_89 rfl (fun c17 => ?_) (fun c17 => ?_)
  · have hq := ite_t hq c17
    refine J_sub [0, 2, 3] rfl ?_
    exact hk116 _ _ hq
  · have hq := ite_f hq c17
    refine J_aload_n (pc := 92) X (j := 0) (i := 0) rfl rfl dX13_longer_92 ?_
    refine J_getF (pc := 93) X (b := 172) ly155 fl_13_84 rfl dX13_longer_93 ?_
    refine J_iload (pc := 96) X (j := 4) rfl dX13_longer_96 ?_
    refine J_iload (pc := 98) X (j := 4) rfl dX13_longer_98 ?_
    refine J_if_ne (pc := 100) (tgt := 107) X dX13_longer_100 rfl (fun c18 => ?_) (fun c18 => ?_)
    · have hq := ite_f hq c18
      refine J_bipush (pc := 107) X (v := 9) (by decide) dX13_longer_107 ?_
      exact tB_X13_longer_109 X _ _ _ _ _ _ _ _ _ _ hk116 hself hq
    · have hq := ite_t hq c18
      refine J_iload_n (pc := 103) X (j := 1) (i := 1) rfl rfl dX13_longer_103 ?_
      refine J_goto (pc := 104) X (tgt := 109) dX13_longer_104 rfl ?_
      exact tB_X13_longer_109 X _ _ _ _ _ _ _ _ _ _ hk116 hself hq
theorem tL_X13_longer_83 {κ : Kx} (X : OK κ cX13_longer 5 (some .int) "StruckWordsModel" 5) (x1 : Int32) (x2 : Int32) (x3 : Int32) (k116 : Hp → Option (Int32 × Hp)) (N : Nat) (x4 : Int32) (h : Hp) (q : (Int32 × Hp)) (hk116 : ∀ (h : Hp) (q : (Int32 × Hp)), k116 h = some q → J κ 116 [(0, .inr (.inr 155)), (2, .inl x2), (3, .inl x3)] [] h (some (.inl q.1), q.2)) (hq : itr2 (F_X13_longer_83 x1 x2 x3 k116) N x4 h = some q) : J κ 83 [(0, .inr (.inr 155)), (1, .inl x1), (2, .inl x2), (3, .inl x3), (4, .inl x4)] [] h (some (.inl q.1), q.2) :=
  itr2_ind (fun self hs x4 h q hq => tF_X13_longer_83 X x1 x2 x3 k116 self x4 h q hk116 hs hq) N x4 h q hq
theorem tf_X13_longer {κ : Kx} (X : OK κ cX13_longer 5 (some .int) "StruckWordsModel" 5) (x1 : Int32) (x2 : Int32) (h : Hp) (q : (Int32 × Hp)) (hq : f_X13_longer x1 x2 h = some q) : J κ 0 [(0, .inr (.inr 155)), (1, .inl x1), (2, .inl x2)] [] h (some (.inl q.1), q.2) := by
  delta f_X13_longer at hq
  refine J_aload_n (pc := 0) X (j := 0) (i := 0) rfl rfl dX13_longer_0 ?_
  refine J_iconst (pc := 1) X (v := 0) (by decide) dX13_longer_1 ?_
  refine J_putI (pc := 2) X ly155 fp_13_1 dX13_longer_2 ?_
  refine J_ltH hq (fun h1 hq => ?_)
  refine J_iload_n (pc := 5) X (j := 1) (i := 1) rfl rfl dX13_longer_5 ?_
  refine J_iconst (pc := 6) X (v := 0) (by decide) dX13_longer_6 ?_
  refine J_bipush (pc := 7) X (v := 7) (by decide) dX13_longer_7 ?_
  obtain ⟨v3, h2, hc, hq⟩ := bnd_e hq
  refine J_callS (pc := 9) (as := [.inl x1, .inl 0, .inl 7]) (st := []) (st2 := [.inl v3]) (r1 := (some (.inl v3), h2)) (h2 := h2) (ky := 1) X dX13_longer_9 ca_X13_isIn cz_X13_isIn ml_13_204 (by decide) (m_X13_isIn _ _ _ _ _ hc) rfl rfl (Nat.le_of_ble_eq_true rfl) rfl rfl ?_
  refine J_if_eq (pc := 12) (tgt := 34) X dX13_longer_12 rfl (fun c4 => ?_) (fun c4 => ?_)
  · have hq := ite_t hq c4
    refine J_bipush (pc := 34) X (v := (-7)) (by decide) dX13_longer_34 ?_
    obtain rfl := Option.some.inj hq
    exact J_iret (pc := 36) X dX13_longer_36
  · have hq := ite_f hq c4
    refine J_iload_n (pc := 15) X (j := 2) (i := 2) rfl rfl dX13_longer_15 ?_
    refine J_iconst (pc := 16) X (v := 1) (by decide) dX13_longer_16 ?_
    refine J_bipush (pc := 17) X (v := 6) (by decide) dX13_longer_17 ?_
    obtain ⟨v6, h5, hc, hq⟩ := bnd_e hq
    refine J_callS (pc := 19) (as := [.inl x2, .inl 1, .inl 6]) (st := []) (st2 := [.inl v6]) (r1 := (some (.inl v6), h5)) (h2 := h5) (ky := 1) X dX13_longer_19 ca_X13_isIn cz_X13_isIn ml_13_204 (by decide) (m_X13_isIn _ _ _ _ _ hc) rfl rfl (Nat.le_of_ble_eq_true rfl) rfl rfl ?_
    refine J_if_eq (pc := 22) (tgt := 34) X dX13_longer_22 rfl (fun c7 => ?_) (fun c7 => ?_)
    · have hq := ite_t hq c7
      refine J_bipush (pc := 34) X (v := (-7)) (by decide) dX13_longer_34 ?_
      obtain rfl := Option.some.inj hq
      exact J_iret (pc := 36) X dX13_longer_36
    · have hq := ite_f hq c7
      refine J_aload_n (pc := 25) X (j := 0) (i := 0) rfl rfl dX13_longer_25 ?_
      refine J_getF (pc := 26) X (b := 157) ly155 fl_13_33 rfl dX13_longer_26 ?_
      refine J_iconst (pc := 29) X (v := 2) (by decide) dX13_longer_29 ?_
      refine J_iaload (pc := 30) X ly157 (by decide) dX13_longer_30 ?_
      refine J_if_ne (pc := 31) (tgt := 37) X dX13_longer_31 rfl (fun c8 => ?_) (fun c8 => ?_)
      · have hq := ite_f hq c8
        refine J_aload_n (pc := 37) X (j := 0) (i := 0) rfl rfl dX13_longer_37 ?_
        obtain ⟨h9, hc, hq⟩ := bnv_e hq
        refine J_callV (pc := 38) (as := []) (st := []) (st2 := []) (r1 := (none, h9)) (h2 := h9) (ky := 2) X dX13_longer_38 ca_X13_settle ci_X13_settle cs_X13_settle ml_13_328 (by decide) ly155 rfl rfl (m_X13_settle _ _ hc) rfl rfl (Nat.le_of_ble_eq_true rfl) rfl rfl ?_
        refine J_iconst (pc := 41) X (v := 0) (by decide) dX13_longer_41 ?_
        refine J_istore_n (pc := 42) X (L' := [(3, .inl 0), (0, .inr (.inr 155)), (1, .inl x1), (2, .inl x2)]) (i := 3) rfl (by decide) rfl dX13_longer_42 ?_
        refine J_sub [1, 2, 3, 0] rfl ?_
        refine tL_X13_longer_43 X _ _ _ N0 _ _ _ ?_ hq
        · intro h14 q hq
          refine J_aload_n (pc := 73) X (j := 0) (i := 0) rfl rfl dX13_longer_73 ?_
          refine J_iload_n (pc := 74) X (j := 2) (i := 2) rfl rfl dX13_longer_74 ?_
          refine J_iconst (pc := 75) X (v := (-1)) (by decide) dX13_longer_75 ?_
          obtain ⟨v16, h15, hc, hq⟩ := bnd_e hq
          refine J_callV (pc := 76) (as := [.inl x2, .inl (-1)]) (st := []) (st2 := [.inl v16]) (r1 := (some (.inl v16), h15)) (h2 := h15) (ky := 4) X dX13_longer_76 ca_X13_shortest ci_X13_shortest cs_X13_shortest ml_13_383 (by decide) ly155 rfl rfl (m_X13_shortest _ _ _ _ hc) rfl rfl (Nat.le_of_ble_eq_true rfl) rfl rfl ?_
          refine J_istore_n (pc := 79) X (L' := [(3, .inl v16), (0, .inr (.inr 155)), (1, .inl x1), (2, .inl x2)]) (i := 3) rfl (by decide) rfl dX13_longer_79 ?_
          refine J_iconst (pc := 80) X (v := 0) (by decide) dX13_longer_80 ?_
          refine J_istore (pc := 81) X (L' := [(4, .inl 0), (3, .inl v16), (0, .inr (.inr 155)), (1, .inl x1), (2, .inl x2)]) (by decide) rfl dX13_longer_81 ?_
          refine J_sub [2, 3, 4, 1, 0] rfl ?_
          refine tL_X13_longer_83 X _ _ _ _ N0 _ _ _ ?_ hq
          · intro h21 q hq
            refine J_aload_n (pc := 116) X (j := 0) (i := 0) rfl rfl dX13_longer_116 ?_
            refine J_iload_n (pc := 117) X (j := 1) (i := 2) rfl rfl dX13_longer_117 ?_
            refine J_iconst (pc := 118) X (v := (-1)) (by decide) dX13_longer_118 ?_
            obtain ⟨v23, h22, hc, hq⟩ := bnd_e hq
            refine J_callV (pc := 119) (as := [.inl x2, .inl (-1)]) (st := []) (st2 := [.inl v23]) (r1 := (some (.inl v23), h22)) (h2 := h22) (ky := 4) X dX13_longer_119 ca_X13_shortest ci_X13_shortest cs_X13_shortest ml_13_383 (by decide) ly155 rfl rfl (m_X13_shortest _ _ _ _ hc) rfl rfl (Nat.le_of_ble_eq_true rfl) rfl rfl ?_
            refine J_istore (pc := 122) X (L' := [(4, .inl v23), (0, .inr (.inr 155)), (2, .inl x2), (3, .inl v16)]) (by decide) rfl dX13_longer_122 ?_
            refine J_iload_n (pc := 124) X (j := 3) (i := 3) rfl rfl dX13_longer_124 ?_
            refine J_if_lt (pc := 125) (tgt := 133) X dX13_longer_125 rfl (fun c24 => ?_) (fun c24 => ?_)
            · have hq := ite_t hq c24
              refine J_bipush (pc := 133) X (v := (-7)) (by decide) dX13_longer_133 ?_
              refine J_goto (pc := 135) X (tgt := 142) dX13_longer_135 rfl ?_
              obtain rfl := Option.some.inj hq
              exact J_iret (pc := 142) X dX13_longer_142
            · have hq := ite_f hq c24
              refine J_iload (pc := 128) X (j := 0) rfl dX13_longer_128 ?_
              refine J_if_ge (pc := 130) (tgt := 138) X dX13_longer_130 rfl (fun c25 => ?_) (fun c25 => ?_)
              · have hq := ite_t hq c25
                refine J_iload_n (pc := 138) X (j := 3) (i := 3) rfl rfl dX13_longer_138 ?_
                refine J_iload (pc := 139) X (j := 0) rfl dX13_longer_139 ?_
                refine J_isub (pc := 141) X dX13_longer_141 ?_
                obtain rfl := Option.some.inj hq
                exact J_iret (pc := 142) X dX13_longer_142
              · have hq := ite_f hq c25
                refine J_bipush (pc := 133) X (v := (-7)) (by decide) dX13_longer_133 ?_
                refine J_goto (pc := 135) X (tgt := 142) dX13_longer_135 rfl ?_
                obtain rfl := Option.some.inj hq
                exact J_iret (pc := 142) X dX13_longer_142
      · have hq := ite_t hq c8
        refine J_bipush (pc := 34) X (v := (-7)) (by decide) dX13_longer_34 ?_
        obtain rfl := Option.some.inj hq
        exact J_iret (pc := 36) X dX13_longer_36
theorem m_X13_longer (x1 : Int32) (x2 : Int32) (h : Hp) (q : (Int32 × Hp)) (hq : f_X13_longer x1 x2 h = some q) : ∀ l w, CT l w yX13_longer cX13_longer 5 (some .int) 5 [.inr (.inr 155), .inl x1, .inl x2] h (some (.inl q.1), q.2) :=
  CT_of (L0 := [(0, .inr (.inr 155)), (1, .inl x1), (2, .inl x2)]) (by decide) rfl (Nat.le_of_ble_eq_true rfl) (fun κ X => tf_X13_longer X x1 x2 h q  hq)
theorem tf_X13_foundAt {κ : Kx} (X : OK κ cX13_foundAt 2 (some .int) "StruckWordsModel" 2) (x1 : Int32) (h : Hp) (q : (Int32 × Hp)) (hq : f_X13_foundAt x1 h = some q) : J κ 0 [(0, .inr (.inr 155)), (1, .inl x1)] [] h (some (.inl q.1), q.2) := by
  delta f_X13_foundAt at hq
  refine J_aload_n (pc := 0) X (j := 0) (i := 0) rfl rfl dX13_foundAt_0 ?_
  refine J_iconst (pc := 1) X (v := 0) (by decide) dX13_foundAt_1 ?_
  refine J_putI (pc := 2) X ly155 fp_13_1 dX13_foundAt_2 ?_
  refine J_ltH hq (fun h1 hq => ?_)
  refine J_iload_n (pc := 5) X (j := 1) (i := 1) rfl rfl dX13_foundAt_5 ?_
  refine J_iconst (pc := 6) X (v := 0) (by decide) dX13_foundAt_6 ?_
  refine J_aload_n (pc := 7) X (j := 0) (i := 0) rfl rfl dX13_foundAt_7 ?_
  refine J_getI (pc := 8) X ly155 fl_13_377 dX13_foundAt_8 ?_
  refine J_iconst (pc := 11) X (v := 1) (by decide) dX13_foundAt_11 ?_
  refine J_isub (pc := 12) X dX13_foundAt_12 ?_
  obtain ⟨v3, h2, hc, hq⟩ := bnd_e hq
  refine J_callS (pc := 13) (as := [.inl x1, .inl 0, .inl ((h1.1 155 42) - 1)]) (st := []) (st2 := [.inl v3]) (r1 := (some (.inl v3), h2)) (h2 := h2) (ky := 1) X dX13_foundAt_13 ca_X13_isIn cz_X13_isIn ml_13_204 (by decide) (m_X13_isIn _ _ _ _ _ hc) rfl rfl (Nat.le_of_ble_eq_true rfl) rfl rfl ?_
  refine J_if_eq (pc := 16) (tgt := 28) X dX13_foundAt_16 rfl (fun c4 => ?_) (fun c4 => ?_)
  · have hq := ite_t hq c4
    refine J_iconst (pc := 28) X (v := (-1)) (by decide) dX13_foundAt_28 ?_
    obtain rfl := Option.some.inj hq
    exact J_iret (pc := 29) X dX13_foundAt_29
  · have hq := ite_f hq c4
    refine J_aload_n (pc := 19) X (j := 0) (i := 0) rfl rfl dX13_foundAt_19 ?_
    refine J_getF (pc := 20) X (b := 176) ly155 fl_13_96 rfl dX13_foundAt_20 ?_
    refine J_iload_n (pc := 23) X (j := 1) (i := 1) rfl rfl dX13_foundAt_23 ?_
    obtain ⟨g5, hq⟩ := gd hq
    refine J_iaload (pc := 24) X ly176 g5 dX13_foundAt_24 ?_
    refine J_goto (pc := 25) X (tgt := 29) dX13_foundAt_25 rfl ?_
    obtain rfl := Option.some.inj hq
    exact J_iret (pc := 29) X dX13_foundAt_29
theorem m_X13_foundAt (x1 : Int32) (h : Hp) (q : (Int32 × Hp)) (hq : f_X13_foundAt x1 h = some q) : ∀ l w, CT l w yX13_foundAt cX13_foundAt 2 (some .int) 2 [.inr (.inr 155), .inl x1] h (some (.inl q.1), q.2) :=
  CT_of (L0 := [(0, .inr (.inr 155)), (1, .inl x1)]) (by decide) rfl (Nat.le_of_ble_eq_true rfl) (fun κ X => tf_X13_foundAt X x1 h q  hq)
theorem tB_X13_other_89 {κ : Kx} (X : OK κ cX13_other 6 (some .int) "StruckWordsModel" 5) (x1 : Int32) (x3 : Int32) (x4 : Int32) (k96 : Hp → Option (Int32 × Hp)) (self : Int32 → Hp → Option (Int32 × Hp)) (x5 : Int32) (t0 : Int32) (t1 : Int32) (h : Hp) (q : (Int32 × Hp)) (hk96 : ∀ (h : Hp) (q : (Int32 × Hp)), k96 h = some q → J κ 96 [(0, .inr (.inr 155)), (4, .inl x4)] [] h (some (.inl q.1), q.2)) (hself : ∀ (x5 : Int32) (h : Hp) (q : (Int32 × Hp)), self x5 h = some q → J κ 66 [(0, .inr (.inr 155)), (1, .inl x1), (3, .inl x3), (4, .inl x4), (5, .inl x5)] [] h (some (.inl q.1), q.2)) (hq : B_X13_other_89 x1 x3 x4 k96 self x5 t0 t1 h = some q) : J κ 89 [(0, .inr (.inr 155)), (1, .inl x1), (3, .inl x3), (4, .inl x4), (5, .inl x5)] [.inl t0, .inl t1, .inr (.inr 172)] h (some (.inl q.1), q.2) := by
  delta B_X13_other_89 at hq
  obtain ⟨g19, hq⟩ := gd hq
  refine J_iastore (pc := 89) X ly172 g19 dX13_other_89 ?_
  refine J_ltH hq (fun h20 hq => ?_)
  refine J_iinc (pc := 90) X (j := 4) (v := 1) (L' := [(5, .inl (x5 + 1)), (0, .inr (.inr 155)), (1, .inl x1), (3, .inl x3), (4, .inl x4)]) rfl (by decide) (by decide) rfl dX13_other_90 ?_
  refine J_goto (pc := 93) X (tgt := 66) dX13_other_93 rfl ?_
  refine J_sub [1, 2, 3, 4, 0] rfl ?_
  exact hself _ _ _ hq
theorem tF_X13_other_66 {κ : Kx} (X : OK κ cX13_other 6 (some .int) "StruckWordsModel" 5) (x1 : Int32) (x3 : Int32) (x4 : Int32) (k96 : Hp → Option (Int32 × Hp)) (self : Int32 → Hp → Option (Int32 × Hp)) (x5 : Int32) (h : Hp) (q : (Int32 × Hp)) (hk96 : ∀ (h : Hp) (q : (Int32 × Hp)), k96 h = some q → J κ 96 [(0, .inr (.inr 155)), (4, .inl x4)] [] h (some (.inl q.1), q.2)) (hself : ∀ (x5 : Int32) (h : Hp) (q : (Int32 × Hp)), self x5 h = some q → J κ 66 [(0, .inr (.inr 155)), (1, .inl x1), (3, .inl x3), (4, .inl x4), (5, .inl x5)] [] h (some (.inl q.1), q.2)) (hq : F_X13_other_66 x1 x3 x4 k96 self x5 h = some q) : J κ 66 [(0, .inr (.inr 155)), (1, .inl x1), (3, .inl x3), (4, .inl x4), (5, .inl x5)] [] h (some (.inl q.1), q.2) := by
  delta F_X13_other_66 at hq
  refine J_iload (pc := 66) X (j := 4) rfl dX13_other_66 ?_
  refine J_iload_n (pc := 68) X (j := 1) (i := 1) rfl rfl dX13_other_68 ?_
  refine J_icmp_gt (pc := 69) (tgt := 96) X dX13_other_69 rfl (fun c17 => ?_) (fun c17 => ?_)
  · have hq := ite_t hq c17
    refine J_sub [0, 3] rfl ?_
    exact hk96 _ _ hq
  · have hq := ite_f hq c17
    refine J_aload_n (pc := 72) X (j := 0) (i := 0) rfl rfl dX13_other_72 ?_
    refine J_getF (pc := 73) X (b := 172) ly155 fl_13_84 rfl dX13_other_73 ?_
    refine J_iload (pc := 76) X (j := 4) rfl dX13_other_76 ?_
    refine J_iload (pc := 78) X (j := 4) rfl dX13_other_78 ?_
    refine J_if_ne (pc := 80) (tgt := 88) X dX13_other_80 rfl (fun c18 => ?_) (fun c18 => ?_)
    · have hq := ite_f hq c18
      refine J_iload_n (pc := 88) X (j := 2) (i := 3) rfl rfl dX13_other_88 ?_
      exact tB_X13_other_89 X _ _ _ _ _ _ _ _ _ _ hk96 hself hq
    · have hq := ite_t hq c18
      refine J_bipush (pc := 83) X (v := 9) (by decide) dX13_other_83 ?_
      refine J_goto (pc := 85) X (tgt := 89) dX13_other_85 rfl ?_
      exact tB_X13_other_89 X _ _ _ _ _ _ _ _ _ _ hk96 hself hq
theorem tL_X13_other_66 {κ : Kx} (X : OK κ cX13_other 6 (some .int) "StruckWordsModel" 5) (x1 : Int32) (x3 : Int32) (x4 : Int32) (k96 : Hp → Option (Int32 × Hp)) (N : Nat) (x5 : Int32) (h : Hp) (q : (Int32 × Hp)) (hk96 : ∀ (h : Hp) (q : (Int32 × Hp)), k96 h = some q → J κ 96 [(0, .inr (.inr 155)), (4, .inl x4)] [] h (some (.inl q.1), q.2)) (hq : itr2 (F_X13_other_66 x1 x3 x4 k96) N x5 h = some q) : J κ 66 [(0, .inr (.inr 155)), (1, .inl x1), (3, .inl x3), (4, .inl x4), (5, .inl x5)] [] h (some (.inl q.1), q.2) :=
  itr2_ind (fun self hs x5 h q hq => tF_X13_other_66 X x1 x3 x4 k96 self x5 h q hk96 hs hq) N x5 h q hq
theorem tf_X13_other {κ : Kx} (X : OK κ cX13_other 6 (some .int) "StruckWordsModel" 5) (x1 : Int32) (x2 : Int32) (x3 : Int32) (x4 : Int32) (h : Hp) (q : (Int32 × Hp)) (hq : f_X13_other x1 x2 x3 x4 h = some q) : J κ 0 [(0, .inr (.inr 155)), (1, .inl x1), (2, .inl x2), (3, .inl x3), (4, .inl x4)] [] h (some (.inl q.1), q.2) := by
  delta f_X13_other at hq
  refine J_aload_n (pc := 0) X (j := 0) (i := 0) rfl rfl dX13_other_0 ?_
  refine J_iconst (pc := 1) X (v := 0) (by decide) dX13_other_1 ?_
  refine J_putI (pc := 2) X ly155 fp_13_1 dX13_other_2 ?_
  refine J_ltH hq (fun h1 hq => ?_)
  refine J_iload_n (pc := 5) X (j := 1) (i := 1) rfl rfl dX13_other_5 ?_
  refine J_iconst (pc := 6) X (v := 2) (by decide) dX13_other_6 ?_
  refine J_iconst (pc := 7) X (v := 5) (by decide) dX13_other_7 ?_
  obtain ⟨v3, h2, hc, hq⟩ := bnd_e hq
  refine J_callS (pc := 8) (as := [.inl x1, .inl 2, .inl 5]) (st := []) (st2 := [.inl v3]) (r1 := (some (.inl v3), h2)) (h2 := h2) (ky := 1) X dX13_other_8 ca_X13_isIn cz_X13_isIn ml_13_204 (by decide) (m_X13_isIn _ _ _ _ _ hc) rfl rfl (Nat.le_of_ble_eq_true rfl) rfl rfl ?_
  refine J_if_eq (pc := 11) (tgt := 46) X dX13_other_11 rfl (fun c4 => ?_) (fun c4 => ?_)
  · have hq := ite_t hq c4
    refine J_bipush (pc := 46) X (v := (-2)) (by decide) dX13_other_46 ?_
    obtain rfl := Option.some.inj hq
    exact J_iret (pc := 48) X dX13_other_48
  · have hq := ite_f hq c4
    refine J_iload_n (pc := 14) X (j := 2) (i := 2) rfl rfl dX13_other_14 ?_
    refine J_iconst (pc := 15) X (v := 1) (by decide) dX13_other_15 ?_
    refine J_iload_n (pc := 16) X (j := 1) (i := 1) rfl rfl dX13_other_16 ?_
    refine J_iconst (pc := 17) X (v := 1) (by decide) dX13_other_17 ?_
    refine J_isub (pc := 18) X dX13_other_18 ?_
    obtain ⟨v6, h5, hc, hq⟩ := bnd_e hq
    refine J_callS (pc := 19) (as := [.inl x2, .inl 1, .inl (x1 - 1)]) (st := []) (st2 := [.inl v6]) (r1 := (some (.inl v6), h5)) (h2 := h5) (ky := 1) X dX13_other_19 ca_X13_isIn cz_X13_isIn ml_13_204 (by decide) (m_X13_isIn _ _ _ _ _ hc) rfl rfl (Nat.le_of_ble_eq_true rfl) rfl rfl ?_
    refine J_if_eq (pc := 22) (tgt := 46) X dX13_other_22 rfl (fun c7 => ?_) (fun c7 => ?_)
    · have hq := ite_t hq c7
      refine J_bipush (pc := 46) X (v := (-2)) (by decide) dX13_other_46 ?_
      obtain rfl := Option.some.inj hq
      exact J_iret (pc := 48) X dX13_other_48
    · have hq := ite_f hq c7
      refine J_iload_n (pc := 25) X (j := 3) (i := 3) rfl rfl dX13_other_25 ?_
      refine J_iconst (pc := 26) X (v := 0) (by decide) dX13_other_26 ?_
      refine J_bipush (pc := 27) X (v := 7) (by decide) dX13_other_27 ?_
      obtain ⟨v9, h8, hc, hq⟩ := bnd_e hq
      refine J_callS (pc := 29) (as := [.inl x3, .inl 0, .inl 7]) (st := []) (st2 := [.inl v9]) (r1 := (some (.inl v9), h8)) (h2 := h8) (ky := 1) X dX13_other_29 ca_X13_isIn cz_X13_isIn ml_13_204 (by decide) (m_X13_isIn _ _ _ _ _ hc) rfl rfl (Nat.le_of_ble_eq_true rfl) rfl rfl ?_
      refine J_if_eq (pc := 32) (tgt := 46) X dX13_other_32 rfl (fun c10 => ?_) (fun c10 => ?_)
      · have hq := ite_t hq c10
        refine J_bipush (pc := 46) X (v := (-2)) (by decide) dX13_other_46 ?_
        obtain rfl := Option.some.inj hq
        exact J_iret (pc := 48) X dX13_other_48
      · have hq := ite_f hq c10
        refine J_iload (pc := 35) X (j := 4) rfl dX13_other_35 ?_
        refine J_iconst (pc := 37) X (v := 1) (by decide) dX13_other_37 ?_
        refine J_bipush (pc := 38) X (v := 6) (by decide) dX13_other_38 ?_
        obtain ⟨v12, h11, hc, hq⟩ := bnd_e hq
        refine J_callS (pc := 40) (as := [.inl x4, .inl 1, .inl 6]) (st := []) (st2 := [.inl v12]) (r1 := (some (.inl v12), h11)) (h2 := h11) (ky := 1) X dX13_other_40 ca_X13_isIn cz_X13_isIn ml_13_204 (by decide) (m_X13_isIn _ _ _ _ _ hc) rfl rfl (Nat.le_of_ble_eq_true rfl) rfl rfl ?_
        refine J_if_ne (pc := 43) (tgt := 49) X dX13_other_43 rfl (fun c13 => ?_) (fun c13 => ?_)
        · have hq := ite_f hq c13
          refine J_aload_n (pc := 49) X (j := 0) (i := 0) rfl rfl dX13_other_49 ?_
          obtain ⟨h14, hc, hq⟩ := bnv_e hq
          refine J_callV (pc := 50) (as := []) (st := []) (st2 := []) (r1 := (none, h14)) (h2 := h14) (ky := 2) X dX13_other_50 ca_X13_settle ci_X13_settle cs_X13_settle ml_13_328 (by decide) ly155 rfl rfl (m_X13_settle _ _ hc) rfl rfl (Nat.le_of_ble_eq_true rfl) rfl rfl ?_
          refine J_aload_n (pc := 53) X (j := 0) (i := 0) rfl rfl dX13_other_53 ?_
          refine J_iload_n (pc := 54) X (j := 1) (i := 1) rfl rfl dX13_other_54 ?_
          refine J_putI (pc := 55) X ly155 fp_13_294 dX13_other_55 ?_
          refine J_ltH hq (fun h15 hq => ?_)
          refine J_aload_n (pc := 58) X (j := 0) (i := 0) rfl rfl dX13_other_58 ?_
          refine J_iload_n (pc := 59) X (j := 2) (i := 2) rfl rfl dX13_other_59 ?_
          refine J_putI (pc := 60) X ly155 fp_13_297 dX13_other_60 ?_
          refine J_ltH hq (fun h16 hq => ?_)
          refine J_iconst (pc := 63) X (v := 0) (by decide) dX13_other_63 ?_
          refine J_istore (pc := 64) X (L' := [(5, .inl 0), (0, .inr (.inr 155)), (1, .inl x1), (2, .inl x2), (3, .inl x3), (4, .inl x4)]) (by decide) rfl dX13_other_64 ?_
          refine J_sub [1, 2, 4, 5, 0] rfl ?_
          refine tL_X13_other_66 X _ _ _ _ N0 _ _ _ ?_ hq
          · intro h21 q hq
            refine J_aload_n (pc := 96) X (j := 0) (i := 0) rfl rfl dX13_other_96 ?_
            refine J_iload (pc := 97) X (j := 1) rfl dX13_other_97 ?_
            refine J_iconst (pc := 99) X (v := (-1)) (by decide) dX13_other_99 ?_
            obtain ⟨v23, h22, hc, hq⟩ := bnd_e hq
            refine J_callV (pc := 100) (as := [.inl x4, .inl (-1)]) (st := []) (st2 := [.inl v23]) (r1 := (some (.inl v23), h22)) (h2 := h22) (ky := 4) X dX13_other_100 ca_X13_shortest ci_X13_shortest cs_X13_shortest ml_13_383 (by decide) ly155 rfl rfl (m_X13_shortest _ _ _ _ hc) rfl rfl (Nat.le_of_ble_eq_true rfl) rfl rfl ?_
            obtain rfl := Option.some.inj hq
            exact J_iret (pc := 103) X dX13_other_103
        · have hq := ite_t hq c13
          refine J_bipush (pc := 46) X (v := (-2)) (by decide) dX13_other_46 ?_
          obtain rfl := Option.some.inj hq
          exact J_iret (pc := 48) X dX13_other_48
theorem m_X13_other (x1 : Int32) (x2 : Int32) (x3 : Int32) (x4 : Int32) (h : Hp) (q : (Int32 × Hp)) (hq : f_X13_other x1 x2 x3 x4 h = some q) : ∀ l w, CT l w yX13_other cX13_other 6 (some .int) 5 [.inr (.inr 155), .inl x1, .inl x2, .inl x3, .inl x4] h (some (.inl q.1), q.2) :=
  CT_of (L0 := [(0, .inr (.inr 155)), (1, .inl x1), (2, .inl x2), (3, .inl x3), (4, .inl x4)]) (by decide) rfl (Nat.le_of_ble_eq_true rfl) (fun κ X => tf_X13_other X x1 x2 x3 x4 h q  hq)
theorem tF_X13_sayableIn_34 {κ : Kx} (X : OK κ cX13_sayableIn 6 (some .int) "StruckWordsModel" 4) (x1 : Int32) (x2 : Int32) (x3 : Int32) (k70 : Int32 → Hp → Option (Int32 × Hp)) (self : Int32 → Int32 → Hp → Option (Int32 × Hp)) (x4 : Int32) (x5 : Int32) (h : Hp) (q : (Int32 × Hp)) (hk70 : ∀ (x4 : Int32) (h : Hp) (q : (Int32 × Hp)), k70 x4 h = some q → J κ 70 [(0, .inr (.inr 155)), (1, .inl x1), (2, .inl x2), (3, .inl x3), (4, .inl x4)] [] h (some (.inl q.1), q.2)) (hself : ∀ (x4 : Int32) (x5 : Int32) (h : Hp) (q : (Int32 × Hp)), self x4 x5 h = some q → J κ 34 [(0, .inr (.inr 155)), (1, .inl x1), (2, .inl x2), (3, .inl x3), (4, .inl x4), (5, .inl x5)] [] h (some (.inl q.1), q.2)) (hq : F_X13_sayableIn_34 x1 x2 x3 k70 self x4 x5 h = some q) : J κ 34 [(0, .inr (.inr 155)), (1, .inl x1), (2, .inl x2), (3, .inl x3), (4, .inl x4), (5, .inl x5)] [] h (some (.inl q.1), q.2) := by
  delta F_X13_sayableIn_34 at hq
  refine J_iload (pc := 34) X (j := 5) rfl dX13_sayableIn_34 ?_
  refine J_aload_n (pc := 36) X (j := 0) (i := 0) rfl rfl dX13_sayableIn_36 ?_
  refine J_getI (pc := 37) X ly155 fl_13_294 dX13_sayableIn_37 ?_
  refine J_icmp_gt (pc := 40) (tgt := 70) X dX13_sayableIn_40 rfl (fun c10 => ?_) (fun c10 => ?_)
  · have hq := ite_t hq c10
    refine J_sub [0, 1, 2, 3, 4] rfl ?_
    exact hk70 _ _ _ hq
  · have hq := ite_f hq c10
    refine J_iload (pc := 43) X (j := 4) rfl dX13_sayableIn_43 ?_
    refine J_if_lt (pc := 45) (tgt := 70) X dX13_sayableIn_45 rfl (fun c11 => ?_) (fun c11 => ?_)
    · have hq := ite_t hq c11
      refine J_sub [0, 1, 2, 3, 4] rfl ?_
      exact hk70 _ _ _ hq
    · have hq := ite_f hq c11
      refine J_aload_n (pc := 48) X (j := 0) (i := 0) rfl rfl dX13_sayableIn_48 ?_
      refine J_iload (pc := 49) X (j := 5) rfl dX13_sayableIn_49 ?_
      obtain ⟨v13, h12, hc, hq⟩ := bnd_e hq
      refine J_callV (pc := 51) (as := [.inl x5]) (st := []) (st2 := [.inl v13]) (r1 := (some (.inl v13), h12)) (h2 := h12) (ky := 2) X dX13_sayableIn_51 ca_X13_meansNow ci_X13_meansNow cs_X13_meansNow ml_13_362 (by decide) ly155 rfl rfl (m_X13_meansNow _ _ _ hc) rfl rfl (Nat.le_of_ble_eq_true rfl) rfl rfl ?_
      refine J_iconst (pc := 54) X (v := 1) (by decide) dX13_sayableIn_54 ?_
      refine J_iload (pc := 55) X (j := 4) rfl dX13_sayableIn_55 ?_
      refine J_ishl (pc := 57) X dX13_sayableIn_57 ?_
      refine J_icmp_eq (pc := 58) (tgt := 64) X dX13_sayableIn_58 rfl (fun c14 => ?_) (fun c14 => ?_)
      · have hq := ite_t hq c14
        refine J_iinc (pc := 64) X (j := 5) (v := 1) (L' := [(5, .inl (x5 + 1)), (0, .inr (.inr 155)), (1, .inl x1), (2, .inl x2), (3, .inl x3), (4, .inl x4)]) rfl (by decide) (by decide) rfl dX13_sayableIn_64 ?_
        refine J_goto (pc := 67) X (tgt := 34) dX13_sayableIn_67 rfl ?_
        refine J_sub [1, 2, 3, 4, 5, 0] rfl ?_
        exact hself _ _ _ _ hq
      · have hq := ite_f hq c14
        refine J_iconst (pc := 61) X (v := (-1)) (by decide) dX13_sayableIn_61 ?_
        refine J_istore (pc := 62) X (L' := [(4, .inl (-1)), (0, .inr (.inr 155)), (1, .inl x1), (2, .inl x2), (3, .inl x3), (5, .inl x5)]) (by decide) rfl dX13_sayableIn_62 ?_
        refine J_iinc (pc := 64) X (j := 5) (v := 1) (L' := [(5, .inl (x5 + 1)), (4, .inl (-1)), (0, .inr (.inr 155)), (1, .inl x1), (2, .inl x2), (3, .inl x3)]) rfl (by decide) (by decide) rfl dX13_sayableIn_64 ?_
        refine J_goto (pc := 67) X (tgt := 34) dX13_sayableIn_67 rfl ?_
        refine J_sub [2, 3, 4, 5, 1, 0] rfl ?_
        exact hself _ _ _ _ hq
theorem tL_X13_sayableIn_34 {κ : Kx} (X : OK κ cX13_sayableIn 6 (some .int) "StruckWordsModel" 4) (x1 : Int32) (x2 : Int32) (x3 : Int32) (k70 : Int32 → Hp → Option (Int32 × Hp)) (N : Nat) (x4 : Int32) (x5 : Int32) (h : Hp) (q : (Int32 × Hp)) (hk70 : ∀ (x4 : Int32) (h : Hp) (q : (Int32 × Hp)), k70 x4 h = some q → J κ 70 [(0, .inr (.inr 155)), (1, .inl x1), (2, .inl x2), (3, .inl x3), (4, .inl x4)] [] h (some (.inl q.1), q.2)) (hq : itr3 (F_X13_sayableIn_34 x1 x2 x3 k70) N x4 x5 h = some q) : J κ 34 [(0, .inr (.inr 155)), (1, .inl x1), (2, .inl x2), (3, .inl x3), (4, .inl x4), (5, .inl x5)] [] h (some (.inl q.1), q.2) :=
  itr3_ind (fun self hs x4 x5 h q hq => tF_X13_sayableIn_34 X x1 x2 x3 k70 self x4 x5 h q hk70 hs hq) N x4 x5 h q hq
theorem tB_X13_sayableIn_70 {κ : Kx} (X : OK κ cX13_sayableIn 6 (some .int) "StruckWordsModel" 4) (x1 : Int32) (x3 : Int32) (k89 : Int32 → Hp → Option (Int32 × Hp)) (self : Int32 → Hp → Option (Int32 × Hp)) (x2 : Int32) (x4 : Int32) (h : Hp) (q : (Int32 × Hp)) (hk89 : ∀ (x2 : Int32) (h : Hp) (q : (Int32 × Hp)), k89 x2 h = some q → J κ 89 [(0, .inr (.inr 155)), (1, .inl x1), (2, .inl x2), (3, .inl x3)] [] h (some (.inl q.1), q.2)) (hself : ∀ (x2 : Int32) (h : Hp) (q : (Int32 × Hp)), self x2 h = some q → J κ 14 [(0, .inr (.inr 155)), (1, .inl x1), (2, .inl x2), (3, .inl x3)] [] h (some (.inl q.1), q.2)) (hq : B_X13_sayableIn_70 x1 x3 k89 self x2 x4 h = some q) : J κ 70 [(0, .inr (.inr 155)), (1, .inl x1), (2, .inl x2), (3, .inl x3), (4, .inl x4)] [] h (some (.inl q.1), q.2) := by
  delta B_X13_sayableIn_70 at hq
  refine J_iload_n (pc := 70) X (j := 2) (i := 2) rfl rfl dX13_sayableIn_70 ?_
  refine J_iload (pc := 71) X (j := 4) rfl dX13_sayableIn_71 ?_
  refine J_if_ge (pc := 73) (tgt := 80) X dX13_sayableIn_73 rfl (fun c17 => ?_) (fun c17 => ?_)
  · have hq := ite_t hq c17
    refine J_iconst (pc := 80) X (v := 1) (by decide) dX13_sayableIn_80 ?_
    refine J_iload (pc := 81) X (j := 4) rfl dX13_sayableIn_81 ?_
    refine J_ishl (pc := 83) X dX13_sayableIn_83 ?_
    refine J_ior (pc := 84) X dX13_sayableIn_84 ?_
    refine J_ltI hq (fun v18 hq => ?_)
    refine J_istore_n (pc := 85) X (L' := [(2, .inl v18), (0, .inr (.inr 155)), (1, .inl x1), (3, .inl x3), (4, .inl x4)]) (i := 2) rfl (by decide) rfl dX13_sayableIn_85 ?_
    refine J_goto (pc := 86) X (tgt := 14) dX13_sayableIn_86 rfl ?_
    refine J_sub [1, 2, 0, 3] rfl ?_
    exact hself _ _ _ hq
  · have hq := ite_f hq c17
    refine J_iconst (pc := 76) X (v := 0) (by decide) dX13_sayableIn_76 ?_
    refine J_goto (pc := 77) X (tgt := 84) dX13_sayableIn_77 rfl ?_
    refine J_ior (pc := 84) X dX13_sayableIn_84 ?_
    refine J_ltI hq (fun v19 hq => ?_)
    refine J_istore_n (pc := 85) X (L' := [(2, .inl v19), (0, .inr (.inr 155)), (1, .inl x1), (3, .inl x3), (4, .inl x4)]) (i := 2) rfl (by decide) rfl dX13_sayableIn_85 ?_
    refine J_goto (pc := 86) X (tgt := 14) dX13_sayableIn_86 rfl ?_
    refine J_sub [1, 2, 0, 3] rfl ?_
    exact hself _ _ _ hq
theorem tF_X13_sayableIn_14 {κ : Kx} (X : OK κ cX13_sayableIn 6 (some .int) "StruckWordsModel" 4) (x1 : Int32) (x3 : Int32) (k89 : Int32 → Hp → Option (Int32 × Hp)) (self : Int32 → Hp → Option (Int32 × Hp)) (x2 : Int32) (h : Hp) (q : (Int32 × Hp)) (hk89 : ∀ (x2 : Int32) (h : Hp) (q : (Int32 × Hp)), k89 x2 h = some q → J κ 89 [(0, .inr (.inr 155)), (1, .inl x1), (2, .inl x2), (3, .inl x3)] [] h (some (.inl q.1), q.2)) (hself : ∀ (x2 : Int32) (h : Hp) (q : (Int32 × Hp)), self x2 h = some q → J κ 14 [(0, .inr (.inr 155)), (1, .inl x1), (2, .inl x2), (3, .inl x3)] [] h (some (.inl q.1), q.2)) (hq : F_X13_sayableIn_14 x1 x3 k89 self x2 h = some q) : J κ 14 [(0, .inr (.inr 155)), (1, .inl x1), (2, .inl x2), (3, .inl x3)] [] h (some (.inl q.1), q.2) := by
  delta F_X13_sayableIn_14 at hq
  refine J_aload_n (pc := 14) X (j := 0) (i := 0) rfl rfl dX13_sayableIn_14 ?_
  obtain ⟨v4, h3, hc, hq⟩ := bnd_e hq
  refine J_callV (pc := 15) (as := []) (st := []) (st2 := [.inl v4]) (r1 := (some (.inl v4), h3)) (h2 := h3) (ky := 3) X dX13_sayableIn_15 ca_X13_nextRow ci_X13_nextRow cs_X13_nextRow ml_13_368 (by decide) ly155 rfl rfl (m_X13_nextRow _ _ hc) rfl rfl (Nat.le_of_ble_eq_true rfl) rfl rfl ?_
  refine J_if_eq (pc := 18) (tgt := 89) X dX13_sayableIn_18 rfl (fun c5 => ?_) (fun c5 => ?_)
  · have hq := ite_t hq c5
    exact hk89 _ _ _ hq
  · have hq := ite_f hq c5
    refine J_aload_n (pc := 21) X (j := 0) (i := 0) rfl rfl dX13_sayableIn_21 ?_
    refine J_iconst (pc := 22) X (v := 1) (by decide) dX13_sayableIn_22 ?_
    obtain ⟨v7, h6, hc, hq⟩ := bnd_e hq
    refine J_callV (pc := 23) (as := [.inl 1]) (st := []) (st2 := [.inl v7]) (r1 := (some (.inl v7), h6)) (h2 := h6) (ky := 2) X dX13_sayableIn_23 ca_X13_meansNow ci_X13_meansNow cs_X13_meansNow ml_13_362 (by decide) ly155 rfl rfl (m_X13_meansNow _ _ _ hc) rfl rfl (Nat.le_of_ble_eq_true rfl) rfl rfl ?_
    obtain ⟨v9, h8, hc, hq⟩ := bnd_e hq
    refine J_callS (pc := 26) (as := [.inl v7]) (st := []) (st2 := [.inl v9]) (r1 := (some (.inl v9), h8)) (h2 := h8) (ky := 1) X dX13_sayableIn_26 ca_X13_only cz_X13_only ml_13_345 (by decide) (m_X13_only _ _ _ hc) rfl rfl (Nat.le_of_ble_eq_true rfl) rfl rfl ?_
    refine J_istore (pc := 29) X (L' := [(4, .inl v9), (0, .inr (.inr 155)), (1, .inl x1), (2, .inl x2), (3, .inl x3)]) (by decide) rfl dX13_sayableIn_29 ?_
    refine J_iconst (pc := 31) X (v := 2) (by decide) dX13_sayableIn_31 ?_
    refine J_istore (pc := 32) X (L' := [(5, .inl 2), (4, .inl v9), (0, .inr (.inr 155)), (1, .inl x1), (2, .inl x2), (3, .inl x3)]) (by decide) rfl dX13_sayableIn_32 ?_
    refine J_sub [2, 3, 4, 5, 1, 0] rfl ?_
    refine tL_X13_sayableIn_34 X _ _ _ _ N0 _ _ _ _ ?_ hq
    · intro v16 h15 q hq
      exact tB_X13_sayableIn_70 X _ _ _ _ _ _ _ _ hk89 hself hq
theorem tL_X13_sayableIn_14 {κ : Kx} (X : OK κ cX13_sayableIn 6 (some .int) "StruckWordsModel" 4) (x1 : Int32) (x3 : Int32) (k89 : Int32 → Hp → Option (Int32 × Hp)) (N : Nat) (x2 : Int32) (h : Hp) (q : (Int32 × Hp)) (hk89 : ∀ (x2 : Int32) (h : Hp) (q : (Int32 × Hp)), k89 x2 h = some q → J κ 89 [(0, .inr (.inr 155)), (1, .inl x1), (2, .inl x2), (3, .inl x3)] [] h (some (.inl q.1), q.2)) (hq : itr2 (F_X13_sayableIn_14 x1 x3 k89) N x2 h = some q) : J κ 14 [(0, .inr (.inr 155)), (1, .inl x1), (2, .inl x2), (3, .inl x3)] [] h (some (.inl q.1), q.2) :=
  itr2_ind (fun self hs x2 h q hq => tF_X13_sayableIn_14 X x1 x3 k89 self x2 h q hk89 hs hq) N x2 h q hq
theorem tF_X13_sayableIn_4 {κ : Kx} (X : OK κ cX13_sayableIn 6 (some .int) "StruckWordsModel" 4) (x1 : Int32) (k95 : Int32 → Hp → Option (Int32 × Hp)) (self : Int32 → Int32 → Hp → Option (Int32 × Hp)) (x2 : Int32) (x3 : Int32) (h : Hp) (q : (Int32 × Hp)) (hk95 : ∀ (x2 : Int32) (h : Hp) (q : (Int32 × Hp)), k95 x2 h = some q → J κ 95 [(2, .inl x2)] [] h (some (.inl q.1), q.2)) (hself : ∀ (x2 : Int32) (x3 : Int32) (h : Hp) (q : (Int32 × Hp)), self x2 x3 h = some q → J κ 4 [(0, .inr (.inr 155)), (1, .inl x1), (2, .inl x2), (3, .inl x3)] [] h (some (.inl q.1), q.2)) (hq : F_X13_sayableIn_4 x1 k95 self x2 x3 h = some q) : J κ 4 [(0, .inr (.inr 155)), (1, .inl x1), (2, .inl x2), (3, .inl x3)] [] h (some (.inl q.1), q.2) := by
  delta F_X13_sayableIn_4 at hq
  refine J_iload_n (pc := 4) X (j := 3) (i := 3) rfl rfl dX13_sayableIn_4 ?_
  refine J_iload_n (pc := 5) X (j := 1) (i := 1) rfl rfl dX13_sayableIn_5 ?_
  refine J_icmp_gt (pc := 6) (tgt := 95) X dX13_sayableIn_6 rfl (fun c1 => ?_) (fun c1 => ?_)
  · have hq := ite_t hq c1
    refine J_sub [2] rfl ?_
    exact hk95 _ _ _ hq
  · have hq := ite_f hq c1
    refine J_aload_n (pc := 9) X (j := 0) (i := 0) rfl rfl dX13_sayableIn_9 ?_
    refine J_iload_n (pc := 10) X (j := 3) (i := 3) rfl rfl dX13_sayableIn_10 ?_
    obtain ⟨h2, hc, hq⟩ := bnv_e hq
    refine J_callV (pc := 11) (as := [.inl x3]) (st := []) (st2 := []) (r1 := (none, h2)) (h2 := h2) (ky := 1) X dX13_sayableIn_11 ca_X13_begin ci_X13_begin cs_X13_begin ml_13_365 (by decide) ly155 rfl rfl (m_X13_begin _ _ _ hc) rfl rfl (Nat.le_of_ble_eq_true rfl) rfl rfl ?_
    refine tL_X13_sayableIn_14 X _ _ _ N0 _ _ _ ?_ hq
    · intro v21 h20 q hq
      refine J_iinc (pc := 89) X (j := 3) (v := 1) (L' := [(3, .inl (x3 + 1)), (0, .inr (.inr 155)), (1, .inl x1), (2, .inl v21)]) rfl (by decide) (by decide) rfl dX13_sayableIn_89 ?_
      refine J_goto (pc := 92) X (tgt := 4) dX13_sayableIn_92 rfl ?_
      refine J_sub [1, 2, 3, 0] rfl ?_
      exact hself _ _ _ _ hq
theorem tL_X13_sayableIn_4 {κ : Kx} (X : OK κ cX13_sayableIn 6 (some .int) "StruckWordsModel" 4) (x1 : Int32) (k95 : Int32 → Hp → Option (Int32 × Hp)) (N : Nat) (x2 : Int32) (x3 : Int32) (h : Hp) (q : (Int32 × Hp)) (hk95 : ∀ (x2 : Int32) (h : Hp) (q : (Int32 × Hp)), k95 x2 h = some q → J κ 95 [(2, .inl x2)] [] h (some (.inl q.1), q.2)) (hq : itr3 (F_X13_sayableIn_4 x1 k95) N x2 x3 h = some q) : J κ 4 [(0, .inr (.inr 155)), (1, .inl x1), (2, .inl x2), (3, .inl x3)] [] h (some (.inl q.1), q.2) :=
  itr3_ind (fun self hs x2 x3 h q hq => tF_X13_sayableIn_4 X x1 k95 self x2 x3 h q hk95 hs hq) N x2 x3 h q hq
theorem tf_X13_sayableIn {κ : Kx} (X : OK κ cX13_sayableIn 6 (some .int) "StruckWordsModel" 4) (x1 : Int32) (h : Hp) (q : (Int32 × Hp)) (hq : f_X13_sayableIn x1 h = some q) : J κ 0 [(0, .inr (.inr 155)), (1, .inl x1)] [] h (some (.inl q.1), q.2) := by
  delta f_X13_sayableIn at hq
  refine J_iconst (pc := 0) X (v := 0) (by decide) dX13_sayableIn_0 ?_
  refine J_istore_n (pc := 1) X (L' := [(2, .inl 0), (0, .inr (.inr 155)), (1, .inl x1)]) (i := 2) rfl (by decide) rfl dX13_sayableIn_1 ?_
  refine J_iconst (pc := 2) X (v := 1) (by decide) dX13_sayableIn_2 ?_
  refine J_istore_n (pc := 3) X (L' := [(3, .inl 1), (2, .inl 0), (0, .inr (.inr 155)), (1, .inl x1)]) (i := 3) rfl (by decide) rfl dX13_sayableIn_3 ?_
  refine J_sub [2, 3, 1, 0] rfl ?_
  refine tL_X13_sayableIn_4 X _ _ N0 _ _ _ _ ?_ hq
  · intro v23 h22 q hq
    refine J_iload_n (pc := 95) X (j := 0) (i := 2) rfl rfl dX13_sayableIn_95 ?_
    obtain rfl := Option.some.inj hq
    exact J_iret (pc := 96) X dX13_sayableIn_96
theorem m_X13_sayableIn (x1 : Int32) (h : Hp) (q : (Int32 × Hp)) (hq : f_X13_sayableIn x1 h = some q) : ∀ l w, CT l w yX13_sayableIn cX13_sayableIn 6 (some .int) 4 [.inr (.inr 155), .inl x1] h (some (.inl q.1), q.2) :=
  CT_of (L0 := [(0, .inr (.inr 155)), (1, .inl x1)]) (by decide) rfl (Nat.le_of_ble_eq_true rfl) (fun κ X => tf_X13_sayableIn X x1 h q  hq)
theorem tF_X13_many_4 {κ : Kx} (X : OK κ cX13_many 3 (some .int) "StruckWordsModel" 2) (x0 : Int32) (k32 : Int32 → Hp → Option (Int32 × Hp)) (self : Int32 → Int32 → Hp → Option (Int32 × Hp)) (x1 : Int32) (x2 : Int32) (h : Hp) (q : (Int32 × Hp)) (hk32 : ∀ (x1 : Int32) (h : Hp) (q : (Int32 × Hp)), k32 x1 h = some q → J κ 32 [(1, .inl x1)] [] h (some (.inl q.1), q.2)) (hself : ∀ (x1 : Int32) (x2 : Int32) (h : Hp) (q : (Int32 × Hp)), self x1 x2 h = some q → J κ 4 [(0, .inl x0), (1, .inl x1), (2, .inl x2)] [] h (some (.inl q.1), q.2)) (hq : F_X13_many_4 x0 k32 self x1 x2 h = some q) : J κ 4 [(0, .inl x0), (1, .inl x1), (2, .inl x2)] [] h (some (.inl q.1), q.2) := by
  delta F_X13_many_4 at hq
  refine J_iload_n (pc := 4) X (j := 2) (i := 2) rfl rfl dX13_many_4 ?_
  refine J_bipush (pc := 5) X (v := 8) (by decide) dX13_many_5 ?_
  refine J_icmp_ge (pc := 7) (tgt := 32) X dX13_many_7 rfl (fun c1 => ?_) (fun c1 => ?_)
  · have hq := ite_t hq c1
    refine J_sub [1] rfl ?_
    exact hk32 _ _ _ hq
  · have hq := ite_f hq c1
    refine J_iload_n (pc := 10) X (j := 1) (i := 1) rfl rfl dX13_many_10 ?_
    refine J_iload_n (pc := 11) X (j := 0) (i := 0) rfl rfl dX13_many_11 ?_
    refine J_iload_n (pc := 12) X (j := 2) (i := 2) rfl rfl dX13_many_12 ?_
    obtain ⟨v3, h2, hc, hq⟩ := bnd_e hq
    refine J_callS (pc := 13) (as := [.inl x0, .inl x2]) (st := [.inl x1]) (st2 := [.inl v3, .inl x1]) (r1 := (some (.inl v3), h2)) (h2 := h2) (ky := 1) X dX13_many_13 ca_X13_has cz_X13_has ml_13_257 (by decide) (m_X13_has _ _ _ _ hc) rfl rfl (Nat.le_of_ble_eq_true rfl) rfl rfl ?_
    refine J_if_eq (pc := 16) (tgt := 23) X dX13_many_16 rfl (fun c4 => ?_) (fun c4 => ?_)
    · have hq := ite_t hq c4
      refine J_iconst (pc := 23) X (v := 0) (by decide) dX13_many_23 ?_
      refine J_iadd (pc := 24) X dX13_many_24 ?_
      refine J_istore_n (pc := 25) X (L' := [(1, .inl (x1 + 0)), (0, .inl x0), (2, .inl x2)]) (i := 1) rfl (by decide) rfl dX13_many_25 ?_
      refine J_iinc (pc := 26) X (j := 2) (v := 1) (L' := [(2, .inl (x2 + 1)), (1, .inl (x1 + 0)), (0, .inl x0)]) rfl (by decide) (by decide) rfl dX13_many_26 ?_
      refine J_goto (pc := 29) X (tgt := 4) dX13_many_29 rfl ?_
      refine J_sub [2, 1, 0] rfl ?_
      exact hself _ _ _ _ hq
    · have hq := ite_f hq c4
      refine J_iconst (pc := 19) X (v := 1) (by decide) dX13_many_19 ?_
      refine J_goto (pc := 20) X (tgt := 24) dX13_many_20 rfl ?_
      refine J_iadd (pc := 24) X dX13_many_24 ?_
      refine J_istore_n (pc := 25) X (L' := [(1, .inl (x1 + 1)), (0, .inl x0), (2, .inl x2)]) (i := 1) rfl (by decide) rfl dX13_many_25 ?_
      refine J_iinc (pc := 26) X (j := 2) (v := 1) (L' := [(2, .inl (x2 + 1)), (1, .inl (x1 + 1)), (0, .inl x0)]) rfl (by decide) (by decide) rfl dX13_many_26 ?_
      refine J_goto (pc := 29) X (tgt := 4) dX13_many_29 rfl ?_
      refine J_sub [2, 1, 0] rfl ?_
      exact hself _ _ _ _ hq
theorem tL_X13_many_4 {κ : Kx} (X : OK κ cX13_many 3 (some .int) "StruckWordsModel" 2) (x0 : Int32) (k32 : Int32 → Hp → Option (Int32 × Hp)) (N : Nat) (x1 : Int32) (x2 : Int32) (h : Hp) (q : (Int32 × Hp)) (hk32 : ∀ (x1 : Int32) (h : Hp) (q : (Int32 × Hp)), k32 x1 h = some q → J κ 32 [(1, .inl x1)] [] h (some (.inl q.1), q.2)) (hq : itr3 (F_X13_many_4 x0 k32) N x1 x2 h = some q) : J κ 4 [(0, .inl x0), (1, .inl x1), (2, .inl x2)] [] h (some (.inl q.1), q.2) :=
  itr3_ind (fun self hs x1 x2 h q hq => tF_X13_many_4 X x0 k32 self x1 x2 h q hk32 hs hq) N x1 x2 h q hq
theorem tf_X13_many {κ : Kx} (X : OK κ cX13_many 3 (some .int) "StruckWordsModel" 2) (x0 : Int32) (h : Hp) (q : (Int32 × Hp)) (hq : f_X13_many x0 h = some q) : J κ 0 [(0, .inl x0)] [] h (some (.inl q.1), q.2) := by
  delta f_X13_many at hq
  refine J_iconst (pc := 0) X (v := 0) (by decide) dX13_many_0 ?_
  refine J_istore_n (pc := 1) X (L' := [(1, .inl 0), (0, .inl x0)]) (i := 1) rfl (by decide) rfl dX13_many_1 ?_
  refine J_iconst (pc := 2) X (v := 0) (by decide) dX13_many_2 ?_
  refine J_istore_n (pc := 3) X (L' := [(2, .inl 0), (1, .inl 0), (0, .inl x0)]) (i := 2) rfl (by decide) rfl dX13_many_3 ?_
  refine J_sub [2, 1, 0] rfl ?_
  refine tL_X13_many_4 X _ _ N0 _ _ _ _ ?_ hq
  · intro v6 h5 q hq
    refine J_iload_n (pc := 32) X (j := 0) (i := 1) rfl rfl dX13_many_32 ?_
    obtain rfl := Option.some.inj hq
    exact J_iret (pc := 33) X dX13_many_33
theorem m_X13_many (x0 : Int32) (h : Hp) (q : (Int32 × Hp)) (hq : f_X13_many x0 h = some q) : ∀ l w, CT l w yX13_many cX13_many 3 (some .int) 2 [.inl x0] h (some (.inl q.1), q.2) :=
  CT_of (L0 := [(0, .inl x0)]) (by decide) rfl (Nat.le_of_ble_eq_true rfl) (fun κ X => tf_X13_many X x0 h q  hq)
theorem tf_X13_sayable {κ : Kx} (X : OK κ cX13_sayable 2 (some .int) "StruckWordsModel" 5) (x1 : Int32) (h : Hp) (q : (Int32 × Hp)) (hq : f_X13_sayable x1 h = some q) : J κ 0 [(0, .inr (.inr 155)), (1, .inl x1)] [] h (some (.inl q.1), q.2) := by
  delta f_X13_sayable at hq
  refine J_aload_n (pc := 0) X (j := 0) (i := 0) rfl rfl dX13_sayable_0 ?_
  refine J_iconst (pc := 1) X (v := 0) (by decide) dX13_sayable_1 ?_
  refine J_putI (pc := 2) X ly155 fp_13_1 dX13_sayable_2 ?_
  refine J_ltH hq (fun h1 hq => ?_)
  refine J_iload_n (pc := 5) X (j := 1) (i := 1) rfl rfl dX13_sayable_5 ?_
  refine J_iconst (pc := 6) X (v := 1) (by decide) dX13_sayable_6 ?_
  refine J_iconst (pc := 7) X (v := 5) (by decide) dX13_sayable_7 ?_
  obtain ⟨v3, h2, hc, hq⟩ := bnd_e hq
  refine J_callS (pc := 8) (as := [.inl x1, .inl 1, .inl 5]) (st := []) (st2 := [.inl v3]) (r1 := (some (.inl v3), h2)) (h2 := h2) (ky := 1) X dX13_sayable_8 ca_X13_isIn cz_X13_isIn ml_13_204 (by decide) (m_X13_isIn _ _ _ _ _ hc) rfl rfl (Nat.le_of_ble_eq_true rfl) rfl rfl ?_
  refine J_if_ne (pc := 11) (tgt := 16) X dX13_sayable_11 rfl (fun c4 => ?_) (fun c4 => ?_)
  · have hq := ite_f hq c4
    refine J_aload_n (pc := 16) X (j := 0) (i := 0) rfl rfl dX13_sayable_16 ?_
    obtain ⟨h5, hc, hq⟩ := bnv_e hq
    refine J_callV (pc := 17) (as := []) (st := []) (st2 := []) (r1 := (none, h5)) (h2 := h5) (ky := 2) X dX13_sayable_17 ca_X13_settle ci_X13_settle cs_X13_settle ml_13_328 (by decide) ly155 rfl rfl (m_X13_settle _ _ hc) rfl rfl (Nat.le_of_ble_eq_true rfl) rfl rfl ?_
    refine J_aload_n (pc := 20) X (j := 0) (i := 0) rfl rfl dX13_sayable_20 ?_
    refine J_iload_n (pc := 21) X (j := 1) (i := 1) rfl rfl dX13_sayable_21 ?_
    obtain ⟨v7, h6, hc, hq⟩ := bnd_e hq
    refine J_callV (pc := 22) (as := [.inl x1]) (st := []) (st2 := [.inl v7]) (r1 := (some (.inl v7), h6)) (h2 := h6) (ky := 4) X dX13_sayable_22 ca_X13_sayableIn ci_X13_sayableIn cs_X13_sayableIn ml_13_389 (by decide) ly155 rfl rfl (m_X13_sayableIn _ _ _ hc) rfl rfl (Nat.le_of_ble_eq_true rfl) rfl rfl ?_
    obtain rfl := Option.some.inj hq
    exact J_iret (pc := 25) X dX13_sayable_25
  · have hq := ite_t hq c4
    refine J_iconst (pc := 14) X (v := (-1)) (by decide) dX13_sayable_14 ?_
    obtain rfl := Option.some.inj hq
    exact J_iret (pc := 15) X dX13_sayable_15
theorem m_X13_sayable (x1 : Int32) (h : Hp) (q : (Int32 × Hp)) (hq : f_X13_sayable x1 h = some q) : ∀ l w, CT l w yX13_sayable cX13_sayable 2 (some .int) 5 [.inr (.inr 155), .inl x1] h (some (.inl q.1), q.2) :=
  CT_of (L0 := [(0, .inr (.inr 155)), (1, .inl x1)]) (by decide) rfl (Nat.le_of_ble_eq_true rfl) (fun κ X => tf_X13_sayable X x1 h q  hq)
theorem tF_X13_link_48 {κ : Kx} (X : OK κ cX13_link 7 (some .int) "StruckWordsModel" 5) (x1 : Int32) (x4 : Int32) (k141 : Int32 → Int32 → Hp → Option (Int32 × Hp)) (self : Int32 → Int32 → Int32 → Hp → Option (Int32 × Hp)) (x2 : Int32) (x3 : Int32) (x5 : Int32) (h : Hp) (q : (Int32 × Hp)) (hk141 : ∀ (x2 : Int32) (x3 : Int32) (h : Hp) (q : (Int32 × Hp)), k141 x2 x3 h = some q → J κ 141 [(0, .inr (.inr 155)), (1, .inl x1), (2, .inl x2), (3, .inl x3), (4, .inl x4)] [] h (some (.inl q.1), q.2)) (hself : ∀ (x2 : Int32) (x3 : Int32) (x5 : Int32) (h : Hp) (q : (Int32 × Hp)), self x2 x3 x5 h = some q → J κ 48 [(0, .inr (.inr 155)), (1, .inl x1), (2, .inl x2), (3, .inl x3), (4, .inl x4), (5, .inl x5)] [] h (some (.inl q.1), q.2)) (hq : F_X13_link_48 x1 x4 k141 self x2 x3 x5 h = some q) : J κ 48 [(0, .inr (.inr 155)), (1, .inl x1), (2, .inl x2), (3, .inl x3), (4, .inl x4), (5, .inl x5)] [] h (some (.inl q.1), q.2) := by
  delta F_X13_link_48 at hq
  refine J_iload (pc := 48) X (j := 5) rfl dX13_link_48 ?_
  refine J_aload_n (pc := 50) X (j := 0) (i := 0) rfl rfl dX13_link_50 ?_
  refine J_getF (pc := 51) X (b := 157) ly155 fl_13_33 rfl dX13_link_51 ?_
  refine J_iconst (pc := 54) X (v := 0) (by decide) dX13_link_54 ?_
  refine J_iaload (pc := 55) X ly157 (by decide) dX13_link_55 ?_
  refine J_icmp_ge (pc := 56) (tgt := 141) X dX13_link_56 rfl (fun c11 => ?_) (fun c11 => ?_)
  · have hq := ite_t hq c11
    refine J_sub [0, 1, 2, 3, 4] rfl ?_
    exact hk141 _ _ _ _ hq
  · have hq := ite_f hq c11
    refine J_aload_n (pc := 59) X (j := 0) (i := 0) rfl rfl dX13_link_59 ?_
    refine J_getF (pc := 60) X (b := 166) ly155 fl_13_62 rfl dX13_link_60 ?_
    refine J_iconst (pc := 63) X (v := 5) (by decide) dX13_link_63 ?_
    refine J_iload (pc := 64) X (j := 4) rfl dX13_link_64 ?_
    refine J_imul (pc := 66) X dX13_link_66 ?_
    refine J_iload (pc := 67) X (j := 5) rfl dX13_link_67 ?_
    refine J_iadd (pc := 69) X dX13_link_69 ?_
    obtain ⟨g12, hq⟩ := gd hq
    refine J_iaload (pc := 70) X ly166 g12 dX13_link_70 ?_
    refine J_iconst (pc := 71) X (v := 1) (by decide) dX13_link_71 ?_
    refine J_icmp_ne (pc := 72) (tgt := 78) X dX13_link_72 rfl (fun c13 => ?_) (fun c13 => ?_)
    · have hq := ite_f hq c13
      refine J_aload_n (pc := 78) X (j := 0) (i := 0) rfl rfl dX13_link_78 ?_
      refine J_getF (pc := 79) X (b := 166) ly155 fl_13_62 rfl dX13_link_79 ?_
      refine J_iconst (pc := 82) X (v := 5) (by decide) dX13_link_82 ?_
      refine J_iload (pc := 83) X (j := 4) rfl dX13_link_83 ?_
      refine J_imul (pc := 85) X dX13_link_85 ?_
      refine J_iload (pc := 86) X (j := 5) rfl dX13_link_86 ?_
      refine J_iadd (pc := 88) X dX13_link_88 ?_
      refine J_iconst (pc := 89) X (v := 1) (by decide) dX13_link_89 ?_
      obtain ⟨g14, hq⟩ := gd hq
      refine J_iastore (pc := 90) X ly166 g14 dX13_link_90 ?_
      refine J_ltH hq (fun h15 hq => ?_)
      refine J_aload_n (pc := 91) X (j := 0) (i := 0) rfl rfl dX13_link_91 ?_
      refine J_iload_n (pc := 92) X (j := 1) (i := 1) rfl rfl dX13_link_92 ?_
      obtain ⟨v17, h16, hc, hq⟩ := bnd_e hq
      refine J_callV (pc := 93) (as := [.inl x1]) (st := []) (st2 := [.inl v17]) (r1 := (some (.inl v17), h16)) (h2 := h16) (ky := 4) X dX13_link_93 ca_X13_sayableIn ci_X13_sayableIn cs_X13_sayableIn ml_13_389 (by decide) ly155 rfl rfl (m_X13_sayableIn _ _ _ hc) rfl rfl (Nat.le_of_ble_eq_true rfl) rfl rfl ?_
      obtain ⟨v19, h18, hc, hq⟩ := bnd_e hq
      refine J_callS (pc := 96) (as := [.inl v17]) (st := []) (st2 := [.inl v19]) (r1 := (some (.inl v19), h18)) (h2 := h18) (ky := 2) X dX13_link_96 ca_X13_many cz_X13_many ml_13_392 (by decide) (m_X13_many _ _ _ hc) rfl rfl (Nat.le_of_ble_eq_true rfl) rfl rfl ?_
      refine J_istore (pc := 99) X (L' := [(6, .inl v19), (0, .inr (.inr 155)), (1, .inl x1), (2, .inl x2), (3, .inl x3), (4, .inl x4), (5, .inl x5)]) (by decide) rfl dX13_link_99 ?_
      refine J_aload_n (pc := 101) X (j := 1) (i := 0) rfl rfl dX13_link_101 ?_
      refine J_getF (pc := 102) X (b := 166) ly155 fl_13_62 rfl dX13_link_102 ?_
      refine J_iconst (pc := 105) X (v := 5) (by decide) dX13_link_105 ?_
      refine J_iload (pc := 106) X (j := 5) rfl dX13_link_106 ?_
      refine J_imul (pc := 108) X dX13_link_108 ?_
      refine J_iload (pc := 109) X (j := 6) rfl dX13_link_109 ?_
      refine J_iadd (pc := 111) X dX13_link_111 ?_
      refine J_iconst (pc := 112) X (v := 0) (by decide) dX13_link_112 ?_
      obtain ⟨g20, hq⟩ := gd hq
      refine J_iastore (pc := 113) X ly166 g20 dX13_link_113 ?_
      refine J_ltH hq (fun h21 hq => ?_)
      refine J_iload (pc := 114) X (j := 0) rfl dX13_link_114 ?_
      refine J_iload_n (pc := 116) X (j := 4) (i := 3) rfl rfl dX13_link_116 ?_
      refine J_icmp_gt (pc := 117) (tgt := 123) X dX13_link_117 rfl (fun c22 => ?_) (fun c22 => ?_)
      · have hq := ite_t hq c22
        refine J_iload (pc := 123) X (j := 0) rfl dX13_link_123 ?_
        refine J_istore_n (pc := 125) X (L' := [(3, .inl v19), (6, .inl v19), (0, .inr (.inr 155)), (1, .inl x1), (2, .inl x2), (4, .inl x4), (5, .inl x5)]) (i := 3) rfl (by decide) rfl dX13_link_125 ?_
        refine J_bipush (pc := 126) X (v := 10) (by decide) dX13_link_126 ?_
        refine J_iload (pc := 128) X (j := 5) rfl dX13_link_128 ?_
        refine J_imul (pc := 130) X dX13_link_130 ?_
        refine J_iload (pc := 131) X (j := 6) rfl dX13_link_131 ?_
        refine J_iadd (pc := 133) X dX13_link_133 ?_
        refine J_ltI hq (fun v23 hq => ?_)
        refine J_istore_n (pc := 134) X (L' := [(2, .inl v23), (3, .inl v19), (6, .inl v19), (0, .inr (.inr 155)), (1, .inl x1), (4, .inl x4), (5, .inl x5)]) (i := 2) rfl (by decide) rfl dX13_link_134 ?_
        refine J_iinc (pc := 135) X (j := 6) (v := 1) (L' := [(5, .inl (x5 + 1)), (2, .inl v23), (3, .inl v19), (6, .inl v19), (0, .inr (.inr 155)), (1, .inl x1), (4, .inl x4)]) rfl (by decide) (by decide) rfl dX13_link_135 ?_
        refine J_goto (pc := 138) X (tgt := 48) dX13_link_138 rfl ?_
        refine J_sub [4, 5, 1, 2, 6, 0] rfl ?_
        exact hself _ _ _ _ _ hq
      · have hq := ite_f hq c22
        refine J_goto (pc := 120) X (tgt := 135) dX13_link_120 rfl ?_
        refine J_iinc (pc := 135) X (j := 6) (v := 1) (L' := [(5, .inl (x5 + 1)), (6, .inl v19), (0, .inr (.inr 155)), (1, .inl x1), (2, .inl x2), (3, .inl x3), (4, .inl x4)]) rfl (by decide) (by decide) rfl dX13_link_135 ?_
        refine J_goto (pc := 138) X (tgt := 48) dX13_link_138 rfl ?_
        refine J_sub [2, 3, 4, 5, 6, 0] rfl ?_
        exact hself _ _ _ _ _ hq
    · have hq := ite_t hq c13
      refine J_goto (pc := 75) X (tgt := 135) dX13_link_75 rfl ?_
      refine J_iinc (pc := 135) X (j := 5) (v := 1) (L' := [(5, .inl (x5 + 1)), (0, .inr (.inr 155)), (1, .inl x1), (2, .inl x2), (3, .inl x3), (4, .inl x4)]) rfl (by decide) (by decide) rfl dX13_link_135 ?_
      refine J_goto (pc := 138) X (tgt := 48) dX13_link_138 rfl ?_
      refine J_sub [1, 2, 3, 4, 5, 0] rfl ?_
      exact hself _ _ _ _ _ hq
theorem tL_X13_link_48 {κ : Kx} (X : OK κ cX13_link 7 (some .int) "StruckWordsModel" 5) (x1 : Int32) (x4 : Int32) (k141 : Int32 → Int32 → Hp → Option (Int32 × Hp)) (N : Nat) (x2 : Int32) (x3 : Int32) (x5 : Int32) (h : Hp) (q : (Int32 × Hp)) (hk141 : ∀ (x2 : Int32) (x3 : Int32) (h : Hp) (q : (Int32 × Hp)), k141 x2 x3 h = some q → J κ 141 [(0, .inr (.inr 155)), (1, .inl x1), (2, .inl x2), (3, .inl x3), (4, .inl x4)] [] h (some (.inl q.1), q.2)) (hq : itr4 (F_X13_link_48 x1 x4 k141) N x2 x3 x5 h = some q) : J κ 48 [(0, .inr (.inr 155)), (1, .inl x1), (2, .inl x2), (3, .inl x3), (4, .inl x4), (5, .inl x5)] [] h (some (.inl q.1), q.2) :=
  itr4_ind (fun self hs x2 x3 x5 h q hq => tF_X13_link_48 X x1 x4 k141 self x2 x3 x5 h q hk141 hs hq) N x2 x3 x5 h q hq
theorem tF_X13_link_34 {κ : Kx} (X : OK κ cX13_link 7 (some .int) "StruckWordsModel" 5) (x1 : Int32) (k147 : Int32 → Hp → Option (Int32 × Hp)) (self : Int32 → Int32 → Int32 → Hp → Option (Int32 × Hp)) (x2 : Int32) (x3 : Int32) (x4 : Int32) (h : Hp) (q : (Int32 × Hp)) (hk147 : ∀ (x2 : Int32) (h : Hp) (q : (Int32 × Hp)), k147 x2 h = some q → J κ 147 [(2, .inl x2)] [] h (some (.inl q.1), q.2)) (hself : ∀ (x2 : Int32) (x3 : Int32) (x4 : Int32) (h : Hp) (q : (Int32 × Hp)), self x2 x3 x4 h = some q → J κ 34 [(0, .inr (.inr 155)), (1, .inl x1), (2, .inl x2), (3, .inl x3), (4, .inl x4)] [] h (some (.inl q.1), q.2)) (hq : F_X13_link_34 x1 k147 self x2 x3 x4 h = some q) : J κ 34 [(0, .inr (.inr 155)), (1, .inl x1), (2, .inl x2), (3, .inl x3), (4, .inl x4)] [] h (some (.inl q.1), q.2) := by
  delta F_X13_link_34 at hq
  refine J_iload (pc := 34) X (j := 4) rfl dX13_link_34 ?_
  refine J_aload_n (pc := 36) X (j := 0) (i := 0) rfl rfl dX13_link_36 ?_
  refine J_getF (pc := 37) X (b := 157) ly155 fl_13_33 rfl dX13_link_37 ?_
  refine J_iconst (pc := 40) X (v := 0) (by decide) dX13_link_40 ?_
  refine J_iaload (pc := 41) X ly157 (by decide) dX13_link_41 ?_
  refine J_icmp_ge (pc := 42) (tgt := 147) X dX13_link_42 rfl (fun c10 => ?_) (fun c10 => ?_)
  · have hq := ite_t hq c10
    refine J_sub [2] rfl ?_
    exact hk147 _ _ _ hq
  · have hq := ite_f hq c10
    refine J_iconst (pc := 45) X (v := 0) (by decide) dX13_link_45 ?_
    refine J_istore (pc := 46) X (L' := [(5, .inl 0), (0, .inr (.inr 155)), (1, .inl x1), (2, .inl x2), (3, .inl x3), (4, .inl x4)]) (by decide) rfl dX13_link_46 ?_
    refine J_sub [1, 2, 3, 4, 5, 0] rfl ?_
    refine tL_X13_link_48 X _ _ _ N0 _ _ _ _ _ ?_ hq
    · intro v25 v26 h24 q hq
      refine J_iinc (pc := 141) X (j := 4) (v := 1) (L' := [(4, .inl (x4 + 1)), (0, .inr (.inr 155)), (1, .inl x1), (2, .inl v25), (3, .inl v26)]) rfl (by decide) (by decide) rfl dX13_link_141 ?_
      refine J_goto (pc := 144) X (tgt := 34) dX13_link_144 rfl ?_
      refine J_sub [1, 2, 3, 4, 0] rfl ?_
      exact hself _ _ _ _ _ hq
theorem tL_X13_link_34 {κ : Kx} (X : OK κ cX13_link 7 (some .int) "StruckWordsModel" 5) (x1 : Int32) (k147 : Int32 → Hp → Option (Int32 × Hp)) (N : Nat) (x2 : Int32) (x3 : Int32) (x4 : Int32) (h : Hp) (q : (Int32 × Hp)) (hk147 : ∀ (x2 : Int32) (h : Hp) (q : (Int32 × Hp)), k147 x2 h = some q → J κ 147 [(2, .inl x2)] [] h (some (.inl q.1), q.2)) (hq : itr4 (F_X13_link_34 x1 k147) N x2 x3 x4 h = some q) : J κ 34 [(0, .inr (.inr 155)), (1, .inl x1), (2, .inl x2), (3, .inl x3), (4, .inl x4)] [] h (some (.inl q.1), q.2) :=
  itr4_ind (fun self hs x2 x3 x4 h q hq => tF_X13_link_34 X x1 k147 self x2 x3 x4 h q hk147 hs hq) N x2 x3 x4 h q hq
theorem tf_X13_link {κ : Kx} (X : OK κ cX13_link 7 (some .int) "StruckWordsModel" 5) (x1 : Int32) (h : Hp) (q : (Int32 × Hp)) (hq : f_X13_link x1 h = some q) : J κ 0 [(0, .inr (.inr 155)), (1, .inl x1)] [] h (some (.inl q.1), q.2) := by
  delta f_X13_link at hq
  refine J_aload_n (pc := 0) X (j := 0) (i := 0) rfl rfl dX13_link_0 ?_
  refine J_iconst (pc := 1) X (v := 0) (by decide) dX13_link_1 ?_
  refine J_putI (pc := 2) X ly155 fp_13_1 dX13_link_2 ?_
  refine J_ltH hq (fun h1 hq => ?_)
  refine J_iload_n (pc := 5) X (j := 1) (i := 1) rfl rfl dX13_link_5 ?_
  refine J_iconst (pc := 6) X (v := 1) (by decide) dX13_link_6 ?_
  refine J_iconst (pc := 7) X (v := 4) (by decide) dX13_link_7 ?_
  obtain ⟨v3, h2, hc, hq⟩ := bnd_e hq
  refine J_callS (pc := 8) (as := [.inl x1, .inl 1, .inl 4]) (st := []) (st2 := [.inl v3]) (r1 := (some (.inl v3), h2)) (h2 := h2) (ky := 1) X dX13_link_8 ca_X13_isIn cz_X13_isIn ml_13_204 (by decide) (m_X13_isIn _ _ _ _ _ hc) rfl rfl (Nat.le_of_ble_eq_true rfl) rfl rfl ?_
  refine J_if_ne (pc := 11) (tgt := 16) X dX13_link_11 rfl (fun c4 => ?_) (fun c4 => ?_)
  · have hq := ite_f hq c4
    refine J_aload_n (pc := 16) X (j := 0) (i := 0) rfl rfl dX13_link_16 ?_
    obtain ⟨h5, hc, hq⟩ := bnv_e hq
    refine J_callV (pc := 17) (as := []) (st := []) (st2 := []) (r1 := (none, h5)) (h2 := h5) (ky := 2) X dX13_link_17 ca_X13_settle ci_X13_settle cs_X13_settle ml_13_328 (by decide) ly155 rfl rfl (m_X13_settle _ _ hc) rfl rfl (Nat.le_of_ble_eq_true rfl) rfl rfl ?_
    refine J_iconst (pc := 20) X (v := (-1)) (by decide) dX13_link_20 ?_
    refine J_istore_n (pc := 21) X (L' := [(2, .inl (-1)), (0, .inr (.inr 155)), (1, .inl x1)]) (i := 2) rfl (by decide) rfl dX13_link_21 ?_
    refine J_aload_n (pc := 22) X (j := 1) (i := 0) rfl rfl dX13_link_22 ?_
    refine J_iload_n (pc := 23) X (j := 2) (i := 1) rfl rfl dX13_link_23 ?_
    obtain ⟨v7, h6, hc, hq⟩ := bnd_e hq
    refine J_callV (pc := 24) (as := [.inl x1]) (st := []) (st2 := [.inl v7]) (r1 := (some (.inl v7), h6)) (h2 := h6) (ky := 4) X dX13_link_24 ca_X13_sayableIn ci_X13_sayableIn cs_X13_sayableIn ml_13_389 (by decide) ly155 rfl rfl (m_X13_sayableIn _ _ _ hc) rfl rfl (Nat.le_of_ble_eq_true rfl) rfl rfl ?_
    obtain ⟨v9, h8, hc, hq⟩ := bnd_e hq
    refine J_callS (pc := 27) (as := [.inl v7]) (st := []) (st2 := [.inl v9]) (r1 := (some (.inl v9), h8)) (h2 := h8) (ky := 2) X dX13_link_27 ca_X13_many cz_X13_many ml_13_392 (by decide) (m_X13_many _ _ _ hc) rfl rfl (Nat.le_of_ble_eq_true rfl) rfl rfl ?_
    refine J_istore_n (pc := 30) X (L' := [(3, .inl v9), (2, .inl (-1)), (0, .inr (.inr 155)), (1, .inl x1)]) (i := 3) rfl (by decide) rfl dX13_link_30 ?_
    refine J_iconst (pc := 31) X (v := 0) (by decide) dX13_link_31 ?_
    refine J_istore (pc := 32) X (L' := [(4, .inl 0), (3, .inl v9), (2, .inl (-1)), (0, .inr (.inr 155)), (1, .inl x1)]) (by decide) rfl dX13_link_32 ?_
    refine J_sub [3, 4, 2, 1, 0] rfl ?_
    refine tL_X13_link_34 X _ _ N0 _ _ _ _ _ ?_ hq
    · intro v28 h27 q hq
      refine J_iload_n (pc := 147) X (j := 0) (i := 2) rfl rfl dX13_link_147 ?_
      obtain rfl := Option.some.inj hq
      exact J_iret (pc := 148) X dX13_link_148
  · have hq := ite_t hq c4
    refine J_iconst (pc := 14) X (v := (-1)) (by decide) dX13_link_14 ?_
    obtain rfl := Option.some.inj hq
    exact J_iret (pc := 15) X dX13_link_15
theorem m_X13_link (x1 : Int32) (h : Hp) (q : (Int32 × Hp)) (hq : f_X13_link x1 h = some q) : ∀ l w, CT l w yX13_link cX13_link 7 (some .int) 5 [.inr (.inr 155), .inl x1] h (some (.inl q.1), q.2) :=
  CT_of (L0 := [(0, .inr (.inr 155)), (1, .inl x1)]) (by decide) rfl (Nat.le_of_ble_eq_true rfl) (fun κ X => tf_X13_link X x1 h q  hq)
theorem tF_X13_lend_93 {κ : Kx} (X : OK κ cX13_lend 8 (some .int) "StruckWordsModel" 5) (x1 : Int32) (x2 : Int32) (x3 : Int32) (x4 : Int32) (x5 : Int32) (x6 : Int32) (k123 : Hp → Option (Int32 × Hp)) (self : Int32 → Hp → Option (Int32 × Hp)) (x7 : Int32) (h : Hp) (q : (Int32 × Hp)) (hk123 : ∀ (h : Hp) (q : (Int32 × Hp)), k123 h = some q → J κ 123 [(0, .inr (.inr 155)), (1, .inl x1), (2, .inl x2), (3, .inl x3), (4, .inl x4), (5, .inl x5), (6, .inl x6)] [] h (some (.inl q.1), q.2)) (hself : ∀ (x7 : Int32) (h : Hp) (q : (Int32 × Hp)), self x7 h = some q → J κ 93 [(0, .inr (.inr 155)), (1, .inl x1), (2, .inl x2), (3, .inl x3), (4, .inl x4), (5, .inl x5), (6, .inl x6), (7, .inl x7)] [] h (some (.inl q.1), q.2)) (hq : F_X13_lend_93 x1 x2 x3 x4 x5 x6 k123 self x7 h = some q) : J κ 93 [(0, .inr (.inr 155)), (1, .inl x1), (2, .inl x2), (3, .inl x3), (4, .inl x4), (5, .inl x5), (6, .inl x6), (7, .inl x7)] [] h (some (.inl q.1), q.2) := by
  delta F_X13_lend_93 at hq
  refine J_iload (pc := 93) X (j := 7) rfl dX13_lend_93 ?_
  refine J_sipush (pc := 95) X (v := 256) (by decide) dX13_lend_95 ?_
  refine J_icmp_ge (pc := 98) (tgt := 123) X dX13_lend_98 rfl (fun c17 => ?_) (fun c17 => ?_)
  · have hq := ite_t hq c17
    refine J_sub [0, 1, 2, 3, 4, 5, 6] rfl ?_
    exact hk123 _ _ hq
  · have hq := ite_f hq c17
    refine J_aload_n (pc := 101) X (j := 0) (i := 0) rfl rfl dX13_lend_101 ?_
    refine J_getF (pc := 102) X (b := 164) ly155 fl_13_56 rfl dX13_lend_102 ?_
    refine J_sipush (pc := 105) X (v := 256) (by decide) dX13_lend_105 ?_
    refine J_iload (pc := 108) X (j := 6) rfl dX13_lend_108 ?_
    refine J_imul (pc := 110) X dX13_lend_110 ?_
    refine J_iload (pc := 111) X (j := 7) rfl dX13_lend_111 ?_
    refine J_iadd (pc := 113) X dX13_lend_113 ?_
    refine J_iload (pc := 114) X (j := 7) rfl dX13_lend_114 ?_
    obtain ⟨g18, hq⟩ := gd hq
    refine J_iastore (pc := 116) X ly164 g18 dX13_lend_116 ?_
    refine J_ltH hq (fun h19 hq => ?_)
    refine J_iinc (pc := 117) X (j := 7) (v := 1) (L' := [(7, .inl (x7 + 1)), (0, .inr (.inr 155)), (1, .inl x1), (2, .inl x2), (3, .inl x3), (4, .inl x4), (5, .inl x5), (6, .inl x6)]) rfl (by decide) (by decide) rfl dX13_lend_117 ?_
    refine J_goto (pc := 120) X (tgt := 93) dX13_lend_120 rfl ?_
    refine J_sub [1, 2, 3, 4, 5, 6, 7, 0] rfl ?_
    exact hself _ _ _ hq
theorem tL_X13_lend_93 {κ : Kx} (X : OK κ cX13_lend 8 (some .int) "StruckWordsModel" 5) (x1 : Int32) (x2 : Int32) (x3 : Int32) (x4 : Int32) (x5 : Int32) (x6 : Int32) (k123 : Hp → Option (Int32 × Hp)) (N : Nat) (x7 : Int32) (h : Hp) (q : (Int32 × Hp)) (hk123 : ∀ (h : Hp) (q : (Int32 × Hp)), k123 h = some q → J κ 123 [(0, .inr (.inr 155)), (1, .inl x1), (2, .inl x2), (3, .inl x3), (4, .inl x4), (5, .inl x5), (6, .inl x6)] [] h (some (.inl q.1), q.2)) (hq : itr2 (F_X13_lend_93 x1 x2 x3 x4 x5 x6 k123) N x7 h = some q) : J κ 93 [(0, .inr (.inr 155)), (1, .inl x1), (2, .inl x2), (3, .inl x3), (4, .inl x4), (5, .inl x5), (6, .inl x6), (7, .inl x7)] [] h (some (.inl q.1), q.2) :=
  itr2_ind (fun self hs x7 h q hq => tF_X13_lend_93 X x1 x2 x3 x4 x5 x6 k123 self x7 h q hk123 hs hq) N x7 h q hq
theorem tF_X13_lend_48 {κ : Kx} (X : OK κ cX13_lend 8 (some .int) "StruckWordsModel" 5) (x1 : Int32) (x4 : Int32) (k173 : Int32 → Int32 → Hp → Option (Int32 × Hp)) (self : Int32 → Int32 → Int32 → Hp → Option (Int32 × Hp)) (x2 : Int32) (x3 : Int32) (x5 : Int32) (h : Hp) (q : (Int32 × Hp)) (hk173 : ∀ (x2 : Int32) (x3 : Int32) (h : Hp) (q : (Int32 × Hp)), k173 x2 x3 h = some q → J κ 173 [(0, .inr (.inr 155)), (1, .inl x1), (2, .inl x2), (3, .inl x3), (4, .inl x4)] [] h (some (.inl q.1), q.2)) (hself : ∀ (x2 : Int32) (x3 : Int32) (x5 : Int32) (h : Hp) (q : (Int32 × Hp)), self x2 x3 x5 h = some q → J κ 48 [(0, .inr (.inr 155)), (1, .inl x1), (2, .inl x2), (3, .inl x3), (4, .inl x4), (5, .inl x5)] [] h (some (.inl q.1), q.2)) (hq : F_X13_lend_48 x1 x4 k173 self x2 x3 x5 h = some q) : J κ 48 [(0, .inr (.inr 155)), (1, .inl x1), (2, .inl x2), (3, .inl x3), (4, .inl x4), (5, .inl x5)] [] h (some (.inl q.1), q.2) := by
  delta F_X13_lend_48 at hq
  refine J_iload (pc := 48) X (j := 5) rfl dX13_lend_48 ?_
  refine J_aload_n (pc := 50) X (j := 0) (i := 0) rfl rfl dX13_lend_50 ?_
  refine J_getF (pc := 51) X (b := 157) ly155 fl_13_33 rfl dX13_lend_51 ?_
  refine J_iconst (pc := 54) X (v := 0) (by decide) dX13_lend_54 ?_
  refine J_iaload (pc := 55) X ly157 (by decide) dX13_lend_55 ?_
  refine J_icmp_ge (pc := 56) (tgt := 173) X dX13_lend_56 rfl (fun c11 => ?_) (fun c11 => ?_)
  · have hq := ite_t hq c11
    refine J_sub [0, 1, 2, 3, 4] rfl ?_
    exact hk173 _ _ _ _ hq
  · have hq := ite_f hq c11
    refine J_iconst (pc := 59) X (v := 5) (by decide) dX13_lend_59 ?_
    refine J_iload (pc := 60) X (j := 4) rfl dX13_lend_60 ?_
    refine J_imul (pc := 62) X dX13_lend_62 ?_
    refine J_iload (pc := 63) X (j := 5) rfl dX13_lend_63 ?_
    refine J_iadd (pc := 65) X dX13_lend_65 ?_
    refine J_ltI hq (fun v12 hq => ?_)
    refine J_istore (pc := 66) X (L' := [(6, .inl v12), (0, .inr (.inr 155)), (1, .inl x1), (2, .inl x2), (3, .inl x3), (4, .inl x4), (5, .inl x5)]) (by decide) rfl dX13_lend_66 ?_
    refine J_aload_n (pc := 68) X (j := 1) (i := 0) rfl rfl dX13_lend_68 ?_
    refine J_getF (pc := 69) X (b := 165) ly155 fl_13_59 rfl dX13_lend_69 ?_
    refine J_iload (pc := 72) X (j := 0) rfl dX13_lend_72 ?_
    obtain ⟨g13, hq⟩ := gd hq
    refine J_iaload (pc := 74) X ly165 g13 dX13_lend_74 ?_
    refine J_iconst (pc := 75) X (v := 1) (by decide) dX13_lend_75 ?_
    refine J_icmp_ne (pc := 76) (tgt := 82) X dX13_lend_76 rfl (fun c14 => ?_) (fun c14 => ?_)
    · have hq := ite_f hq c14
      refine J_aload_n (pc := 82) X (j := 1) (i := 0) rfl rfl dX13_lend_82 ?_
      refine J_getF (pc := 83) X (b := 165) ly155 fl_13_59 rfl dX13_lend_83 ?_
      refine J_iload (pc := 86) X (j := 0) rfl dX13_lend_86 ?_
      refine J_iconst (pc := 88) X (v := 1) (by decide) dX13_lend_88 ?_
      obtain ⟨g15, hq⟩ := gd hq
      refine J_iastore (pc := 89) X ly165 g15 dX13_lend_89 ?_
      refine J_ltH hq (fun h16 hq => ?_)
      refine J_iconst (pc := 90) X (v := 0) (by decide) dX13_lend_90 ?_
      refine J_istore (pc := 91) X (L' := [(7, .inl 0), (6, .inl v12), (0, .inr (.inr 155)), (1, .inl x1), (2, .inl x2), (3, .inl x3), (4, .inl x4), (5, .inl x5)]) (by decide) rfl dX13_lend_91 ?_
      refine J_sub [2, 3, 4, 5, 6, 7, 1, 0] rfl ?_
      refine tL_X13_lend_93 X _ _ _ _ _ _ _ N0 _ _ _ ?_ hq
      · intro h20 q hq
        refine J_aload_n (pc := 123) X (j := 0) (i := 0) rfl rfl dX13_lend_123 ?_
        refine J_iload_n (pc := 124) X (j := 1) (i := 1) rfl rfl dX13_lend_124 ?_
        obtain ⟨v22, h21, hc, hq⟩ := bnd_e hq
        refine J_callV (pc := 125) (as := [.inl x1]) (st := []) (st2 := [.inl v22]) (r1 := (some (.inl v22), h21)) (h2 := h21) (ky := 4) X dX13_lend_125 ca_X13_sayableIn ci_X13_sayableIn cs_X13_sayableIn ml_13_389 (by decide) ly155 rfl rfl (m_X13_sayableIn _ _ _ hc) rfl rfl (Nat.le_of_ble_eq_true rfl) rfl rfl ?_
        obtain ⟨v24, h23, hc, hq⟩ := bnd_e hq
        refine J_callS (pc := 128) (as := [.inl v22]) (st := []) (st2 := [.inl v24]) (r1 := (some (.inl v24), h23)) (h2 := h23) (ky := 2) X dX13_lend_128 ca_X13_many cz_X13_many ml_13_392 (by decide) (m_X13_many _ _ _ hc) rfl rfl (Nat.le_of_ble_eq_true rfl) rfl rfl ?_
        refine J_istore (pc := 131) X (L' := [(7, .inl v24), (0, .inr (.inr 155)), (1, .inl x1), (2, .inl x2), (3, .inl x3), (4, .inl x4), (5, .inl x5), (6, .inl v12)]) (by decide) rfl dX13_lend_131 ?_
        refine J_aload_n (pc := 133) X (j := 1) (i := 0) rfl rfl dX13_lend_133 ?_
        refine J_getF (pc := 134) X (b := 165) ly155 fl_13_59 rfl dX13_lend_134 ?_
        refine J_iload (pc := 137) X (j := 7) rfl dX13_lend_137 ?_
        refine J_iconst (pc := 139) X (v := 0) (by decide) dX13_lend_139 ?_
        obtain ⟨g25, hq⟩ := gd hq
        refine J_iastore (pc := 140) X ly165 g25 dX13_lend_140 ?_
        refine J_ltH hq (fun h26 hq => ?_)
        refine J_aload_n (pc := 141) X (j := 1) (i := 0) rfl rfl dX13_lend_141 ?_
        refine J_iconst (pc := 142) X (v := 1) (by decide) dX13_lend_142 ?_
        refine J_putZ (pc := 143) X ly155 fp_13_65 (by decide) dX13_lend_143 ?_
        refine J_ltH hq (fun h27 hq => ?_)
        refine J_iload (pc := 146) X (j := 0) rfl dX13_lend_146 ?_
        refine J_iload_n (pc := 148) X (j := 4) (i := 3) rfl rfl dX13_lend_148 ?_
        refine J_icmp_gt (pc := 149) (tgt := 155) X dX13_lend_149 rfl (fun c28 => ?_) (fun c28 => ?_)
        · have hq := ite_t hq c28
          refine J_iload (pc := 155) X (j := 0) rfl dX13_lend_155 ?_
          refine J_istore_n (pc := 157) X (L' := [(3, .inl v24), (7, .inl v24), (0, .inr (.inr 155)), (1, .inl x1), (2, .inl x2), (4, .inl x4), (5, .inl x5), (6, .inl v12)]) (i := 3) rfl (by decide) rfl dX13_lend_157 ?_
          refine J_bipush (pc := 158) X (v := 10) (by decide) dX13_lend_158 ?_
          refine J_iload (pc := 160) X (j := 5) rfl dX13_lend_160 ?_
          refine J_imul (pc := 162) X dX13_lend_162 ?_
          refine J_iload (pc := 163) X (j := 6) rfl dX13_lend_163 ?_
          refine J_iadd (pc := 165) X dX13_lend_165 ?_
          refine J_ltI hq (fun v29 hq => ?_)
          refine J_istore_n (pc := 166) X (L' := [(2, .inl v29), (3, .inl v24), (7, .inl v24), (0, .inr (.inr 155)), (1, .inl x1), (4, .inl x4), (5, .inl x5), (6, .inl v12)]) (i := 2) rfl (by decide) rfl dX13_lend_166 ?_
          refine J_iinc (pc := 167) X (j := 6) (v := 1) (L' := [(5, .inl (x5 + 1)), (2, .inl v29), (3, .inl v24), (7, .inl v24), (0, .inr (.inr 155)), (1, .inl x1), (4, .inl x4), (6, .inl v12)]) rfl (by decide) (by decide) rfl dX13_lend_167 ?_
          refine J_goto (pc := 170) X (tgt := 48) dX13_lend_170 rfl ?_
          refine J_sub [4, 5, 1, 2, 6, 0] rfl ?_
          exact hself _ _ _ _ _ hq
        · have hq := ite_f hq c28
          refine J_goto (pc := 152) X (tgt := 167) dX13_lend_152 rfl ?_
          refine J_iinc (pc := 167) X (j := 6) (v := 1) (L' := [(5, .inl (x5 + 1)), (7, .inl v24), (0, .inr (.inr 155)), (1, .inl x1), (2, .inl x2), (3, .inl x3), (4, .inl x4), (6, .inl v12)]) rfl (by decide) (by decide) rfl dX13_lend_167 ?_
          refine J_goto (pc := 170) X (tgt := 48) dX13_lend_170 rfl ?_
          refine J_sub [2, 3, 4, 5, 6, 0] rfl ?_
          exact hself _ _ _ _ _ hq
    · have hq := ite_t hq c14
      refine J_goto (pc := 79) X (tgt := 167) dX13_lend_79 rfl ?_
      refine J_iinc (pc := 167) X (j := 6) (v := 1) (L' := [(5, .inl (x5 + 1)), (6, .inl v12), (0, .inr (.inr 155)), (1, .inl x1), (2, .inl x2), (3, .inl x3), (4, .inl x4)]) rfl (by decide) (by decide) rfl dX13_lend_167 ?_
      refine J_goto (pc := 170) X (tgt := 48) dX13_lend_170 rfl ?_
      refine J_sub [2, 3, 4, 5, 6, 0] rfl ?_
      exact hself _ _ _ _ _ hq
theorem tL_X13_lend_48 {κ : Kx} (X : OK κ cX13_lend 8 (some .int) "StruckWordsModel" 5) (x1 : Int32) (x4 : Int32) (k173 : Int32 → Int32 → Hp → Option (Int32 × Hp)) (N : Nat) (x2 : Int32) (x3 : Int32) (x5 : Int32) (h : Hp) (q : (Int32 × Hp)) (hk173 : ∀ (x2 : Int32) (x3 : Int32) (h : Hp) (q : (Int32 × Hp)), k173 x2 x3 h = some q → J κ 173 [(0, .inr (.inr 155)), (1, .inl x1), (2, .inl x2), (3, .inl x3), (4, .inl x4)] [] h (some (.inl q.1), q.2)) (hq : itr4 (F_X13_lend_48 x1 x4 k173) N x2 x3 x5 h = some q) : J κ 48 [(0, .inr (.inr 155)), (1, .inl x1), (2, .inl x2), (3, .inl x3), (4, .inl x4), (5, .inl x5)] [] h (some (.inl q.1), q.2) :=
  itr4_ind (fun self hs x2 x3 x5 h q hq => tF_X13_lend_48 X x1 x4 k173 self x2 x3 x5 h q hk173 hs hq) N x2 x3 x5 h q hq
theorem tF_X13_lend_34 {κ : Kx} (X : OK κ cX13_lend 8 (some .int) "StruckWordsModel" 5) (x1 : Int32) (k179 : Int32 → Hp → Option (Int32 × Hp)) (self : Int32 → Int32 → Int32 → Hp → Option (Int32 × Hp)) (x2 : Int32) (x3 : Int32) (x4 : Int32) (h : Hp) (q : (Int32 × Hp)) (hk179 : ∀ (x2 : Int32) (h : Hp) (q : (Int32 × Hp)), k179 x2 h = some q → J κ 179 [(2, .inl x2)] [] h (some (.inl q.1), q.2)) (hself : ∀ (x2 : Int32) (x3 : Int32) (x4 : Int32) (h : Hp) (q : (Int32 × Hp)), self x2 x3 x4 h = some q → J κ 34 [(0, .inr (.inr 155)), (1, .inl x1), (2, .inl x2), (3, .inl x3), (4, .inl x4)] [] h (some (.inl q.1), q.2)) (hq : F_X13_lend_34 x1 k179 self x2 x3 x4 h = some q) : J κ 34 [(0, .inr (.inr 155)), (1, .inl x1), (2, .inl x2), (3, .inl x3), (4, .inl x4)] [] h (some (.inl q.1), q.2) := by
  delta F_X13_lend_34 at hq
  refine J_iload (pc := 34) X (j := 4) rfl dX13_lend_34 ?_
  refine J_aload_n (pc := 36) X (j := 0) (i := 0) rfl rfl dX13_lend_36 ?_
  refine J_getF (pc := 37) X (b := 157) ly155 fl_13_33 rfl dX13_lend_37 ?_
  refine J_iconst (pc := 40) X (v := 2) (by decide) dX13_lend_40 ?_
  refine J_iaload (pc := 41) X ly157 (by decide) dX13_lend_41 ?_
  refine J_icmp_ge (pc := 42) (tgt := 179) X dX13_lend_42 rfl (fun c10 => ?_) (fun c10 => ?_)
  · have hq := ite_t hq c10
    refine J_sub [2] rfl ?_
    exact hk179 _ _ _ hq
  · have hq := ite_f hq c10
    refine J_iconst (pc := 45) X (v := 0) (by decide) dX13_lend_45 ?_
    refine J_istore (pc := 46) X (L' := [(5, .inl 0), (0, .inr (.inr 155)), (1, .inl x1), (2, .inl x2), (3, .inl x3), (4, .inl x4)]) (by decide) rfl dX13_lend_46 ?_
    refine J_sub [1, 2, 3, 4, 5, 0] rfl ?_
    refine tL_X13_lend_48 X _ _ _ N0 _ _ _ _ _ ?_ hq
    · intro v31 v32 h30 q hq
      refine J_iinc (pc := 173) X (j := 4) (v := 1) (L' := [(4, .inl (x4 + 1)), (0, .inr (.inr 155)), (1, .inl x1), (2, .inl v31), (3, .inl v32)]) rfl (by decide) (by decide) rfl dX13_lend_173 ?_
      refine J_goto (pc := 176) X (tgt := 34) dX13_lend_176 rfl ?_
      refine J_sub [1, 2, 3, 4, 0] rfl ?_
      exact hself _ _ _ _ _ hq
theorem tL_X13_lend_34 {κ : Kx} (X : OK κ cX13_lend 8 (some .int) "StruckWordsModel" 5) (x1 : Int32) (k179 : Int32 → Hp → Option (Int32 × Hp)) (N : Nat) (x2 : Int32) (x3 : Int32) (x4 : Int32) (h : Hp) (q : (Int32 × Hp)) (hk179 : ∀ (x2 : Int32) (h : Hp) (q : (Int32 × Hp)), k179 x2 h = some q → J κ 179 [(2, .inl x2)] [] h (some (.inl q.1), q.2)) (hq : itr4 (F_X13_lend_34 x1 k179) N x2 x3 x4 h = some q) : J κ 34 [(0, .inr (.inr 155)), (1, .inl x1), (2, .inl x2), (3, .inl x3), (4, .inl x4)] [] h (some (.inl q.1), q.2) :=
  itr4_ind (fun self hs x2 x3 x4 h q hq => tF_X13_lend_34 X x1 k179 self x2 x3 x4 h q hk179 hs hq) N x2 x3 x4 h q hq
theorem tf_X13_lend {κ : Kx} (X : OK κ cX13_lend 8 (some .int) "StruckWordsModel" 5) (x1 : Int32) (h : Hp) (q : (Int32 × Hp)) (hq : f_X13_lend x1 h = some q) : J κ 0 [(0, .inr (.inr 155)), (1, .inl x1)] [] h (some (.inl q.1), q.2) := by
  delta f_X13_lend at hq
  refine J_aload_n (pc := 0) X (j := 0) (i := 0) rfl rfl dX13_lend_0 ?_
  refine J_iconst (pc := 1) X (v := 0) (by decide) dX13_lend_1 ?_
  refine J_putI (pc := 2) X ly155 fp_13_1 dX13_lend_2 ?_
  refine J_ltH hq (fun h1 hq => ?_)
  refine J_iload_n (pc := 5) X (j := 1) (i := 1) rfl rfl dX13_lend_5 ?_
  refine J_iconst (pc := 6) X (v := 1) (by decide) dX13_lend_6 ?_
  refine J_iconst (pc := 7) X (v := 4) (by decide) dX13_lend_7 ?_
  obtain ⟨v3, h2, hc, hq⟩ := bnd_e hq
  refine J_callS (pc := 8) (as := [.inl x1, .inl 1, .inl 4]) (st := []) (st2 := [.inl v3]) (r1 := (some (.inl v3), h2)) (h2 := h2) (ky := 1) X dX13_lend_8 ca_X13_isIn cz_X13_isIn ml_13_204 (by decide) (m_X13_isIn _ _ _ _ _ hc) rfl rfl (Nat.le_of_ble_eq_true rfl) rfl rfl ?_
  refine J_if_ne (pc := 11) (tgt := 16) X dX13_lend_11 rfl (fun c4 => ?_) (fun c4 => ?_)
  · have hq := ite_f hq c4
    refine J_aload_n (pc := 16) X (j := 0) (i := 0) rfl rfl dX13_lend_16 ?_
    obtain ⟨h5, hc, hq⟩ := bnv_e hq
    refine J_callV (pc := 17) (as := []) (st := []) (st2 := []) (r1 := (none, h5)) (h2 := h5) (ky := 2) X dX13_lend_17 ca_X13_settle ci_X13_settle cs_X13_settle ml_13_328 (by decide) ly155 rfl rfl (m_X13_settle _ _ hc) rfl rfl (Nat.le_of_ble_eq_true rfl) rfl rfl ?_
    refine J_iconst (pc := 20) X (v := (-1)) (by decide) dX13_lend_20 ?_
    refine J_istore_n (pc := 21) X (L' := [(2, .inl (-1)), (0, .inr (.inr 155)), (1, .inl x1)]) (i := 2) rfl (by decide) rfl dX13_lend_21 ?_
    refine J_aload_n (pc := 22) X (j := 1) (i := 0) rfl rfl dX13_lend_22 ?_
    refine J_iload_n (pc := 23) X (j := 2) (i := 1) rfl rfl dX13_lend_23 ?_
    obtain ⟨v7, h6, hc, hq⟩ := bnd_e hq
    refine J_callV (pc := 24) (as := [.inl x1]) (st := []) (st2 := [.inl v7]) (r1 := (some (.inl v7), h6)) (h2 := h6) (ky := 4) X dX13_lend_24 ca_X13_sayableIn ci_X13_sayableIn cs_X13_sayableIn ml_13_389 (by decide) ly155 rfl rfl (m_X13_sayableIn _ _ _ hc) rfl rfl (Nat.le_of_ble_eq_true rfl) rfl rfl ?_
    obtain ⟨v9, h8, hc, hq⟩ := bnd_e hq
    refine J_callS (pc := 27) (as := [.inl v7]) (st := []) (st2 := [.inl v9]) (r1 := (some (.inl v9), h8)) (h2 := h8) (ky := 2) X dX13_lend_27 ca_X13_many cz_X13_many ml_13_392 (by decide) (m_X13_many _ _ _ hc) rfl rfl (Nat.le_of_ble_eq_true rfl) rfl rfl ?_
    refine J_istore_n (pc := 30) X (L' := [(3, .inl v9), (2, .inl (-1)), (0, .inr (.inr 155)), (1, .inl x1)]) (i := 3) rfl (by decide) rfl dX13_lend_30 ?_
    refine J_iconst (pc := 31) X (v := 0) (by decide) dX13_lend_31 ?_
    refine J_istore (pc := 32) X (L' := [(4, .inl 0), (3, .inl v9), (2, .inl (-1)), (0, .inr (.inr 155)), (1, .inl x1)]) (by decide) rfl dX13_lend_32 ?_
    refine J_sub [3, 4, 2, 1, 0] rfl ?_
    refine tL_X13_lend_34 X _ _ N0 _ _ _ _ _ ?_ hq
    · intro v34 h33 q hq
      refine J_iload_n (pc := 179) X (j := 0) (i := 2) rfl rfl dX13_lend_179 ?_
      obtain rfl := Option.some.inj hq
      exact J_iret (pc := 180) X dX13_lend_180
  · have hq := ite_t hq c4
    refine J_iconst (pc := 14) X (v := (-1)) (by decide) dX13_lend_14 ?_
    obtain rfl := Option.some.inj hq
    exact J_iret (pc := 15) X dX13_lend_15
theorem m_X13_lend (x1 : Int32) (h : Hp) (q : (Int32 × Hp)) (hq : f_X13_lend x1 h = some q) : ∀ l w, CT l w yX13_lend cX13_lend 8 (some .int) 5 [.inr (.inr 155), .inl x1] h (some (.inl q.1), q.2) :=
  CT_of (L0 := [(0, .inr (.inr 155)), (1, .inl x1)]) (by decide) rfl (Nat.le_of_ble_eq_true rfl) (fun κ X => tf_X13_lend X x1 h q  hq)
theorem tB_X13_placesBehind_70 {κ : Kx} (X : OK κ cX13_placesBehind 7 (some .int) "StruckWordsModel" 2) (x1 : Int32) (x2 : Int32) (x3 : Int32) (x4 : Int32) (k109 : Int32 → Hp → Option (Int32 × Hp)) (self : Int32 → Int32 → Hp → Option (Int32 × Hp)) (x5 : Int32) (x6 : Int32) (h : Hp) (q : (Int32 × Hp)) (hk109 : ∀ (x5 : Int32) (h : Hp) (q : (Int32 × Hp)), k109 x5 h = some q → J κ 109 [(5, .inl x5)] [] h (some (.inl q.1), q.2)) (hself : ∀ (x5 : Int32) (x6 : Int32) (h : Hp) (q : (Int32 × Hp)), self x5 x6 h = some q → J κ 6 [(0, .inr (.inr 155)), (1, .inl x1), (2, .inl x2), (3, .inl x3), (4, .inl x4), (5, .inl x5), (6, .inl x6)] [] h (some (.inl q.1), q.2)) (hq : B_X13_placesBehind_70 x1 x2 x3 x4 k109 self x5 x6 h = some q) : J κ 70 [(0, .inr (.inr 155)), (1, .inl x1), (2, .inl x2), (3, .inl x3), (4, .inl x4), (5, .inl x5), (6, .inl x6)] [] h (some (.inl q.1), q.2) := by
  delta B_X13_placesBehind_70 at hq
  refine J_aload_n (pc := 70) X (j := 0) (i := 0) rfl rfl dX13_placesBehind_70 ?_
  refine J_getF (pc := 71) X (b := 157) ly155 fl_13_33 rfl dX13_placesBehind_71 ?_
  refine J_bipush (pc := 74) X (v := 64) (by decide) dX13_placesBehind_74 ?_
  refine J_iload_n (pc := 76) X (j := 2) (i := 2) rfl rfl dX13_placesBehind_76 ?_
  refine J_iadd (pc := 77) X dX13_placesBehind_77 ?_
  obtain ⟨g6, hq⟩ := gd hq
  refine J_iaload (pc := 78) X ly157 g6 dX13_placesBehind_78 ?_
  refine J_iconst (pc := 79) X (v := 1) (by decide) dX13_placesBehind_79 ?_
  refine J_icmp_ne (pc := 80) (tgt := 103) X dX13_placesBehind_80 rfl (fun c7 => ?_) (fun c7 => ?_)
  · have hq := ite_f hq c7
    refine J_iinc (pc := 103) X (j := 6) (v := 1) (L' := [(6, .inl (x6 + 1)), (0, .inr (.inr 155)), (1, .inl x1), (2, .inl x2), (3, .inl x3), (4, .inl x4), (5, .inl x5)]) rfl (by decide) (by decide) rfl dX13_placesBehind_103 ?_
    refine J_goto (pc := 106) X (tgt := 6) dX13_placesBehind_106 rfl ?_
    refine J_sub [1, 2, 3, 4, 5, 6, 0] rfl ?_
    exact hself _ _ _ _ hq
  · have hq := ite_t hq c7
    refine J_iload_n (pc := 83) X (j := 3) (i := 3) rfl rfl dX13_placesBehind_83 ?_
    refine J_iconst (pc := 84) X (v := 1) (by decide) dX13_placesBehind_84 ?_
    refine J_iadd (pc := 85) X dX13_placesBehind_85 ?_
    refine J_iload (pc := 86) X (j := 6) rfl dX13_placesBehind_86 ?_
    refine J_isub (pc := 88) X dX13_placesBehind_88 ?_
    refine J_iload (pc := 89) X (j := 4) rfl dX13_placesBehind_89 ?_
    refine J_icmp_gt (pc := 91) (tgt := 103) X dX13_placesBehind_91 rfl (fun c8 => ?_) (fun c8 => ?_)
    · have hq := ite_t hq c8
      refine J_iinc (pc := 103) X (j := 6) (v := 1) (L' := [(6, .inl (x6 + 1)), (0, .inr (.inr 155)), (1, .inl x1), (2, .inl x2), (3, .inl x3), (4, .inl x4), (5, .inl x5)]) rfl (by decide) (by decide) rfl dX13_placesBehind_103 ?_
      refine J_goto (pc := 106) X (tgt := 6) dX13_placesBehind_106 rfl ?_
      refine J_sub [1, 2, 3, 4, 5, 6, 0] rfl ?_
      exact hself _ _ _ _ hq
    · have hq := ite_f hq c8
      refine J_iload (pc := 94) X (j := 5) rfl dX13_placesBehind_94 ?_
      refine J_iconst (pc := 96) X (v := 1) (by decide) dX13_placesBehind_96 ?_
      refine J_iload (pc := 97) X (j := 6) rfl dX13_placesBehind_97 ?_
      refine J_ishl (pc := 99) X dX13_placesBehind_99 ?_
      refine J_ior (pc := 100) X dX13_placesBehind_100 ?_
      refine J_ltI hq (fun v9 hq => ?_)
      refine J_istore (pc := 101) X (L' := [(5, .inl v9), (0, .inr (.inr 155)), (1, .inl x1), (2, .inl x2), (3, .inl x3), (4, .inl x4), (6, .inl x6)]) (by decide) rfl dX13_placesBehind_101 ?_
      refine J_iinc (pc := 103) X (j := 6) (v := 1) (L' := [(6, .inl (x6 + 1)), (5, .inl v9), (0, .inr (.inr 155)), (1, .inl x1), (2, .inl x2), (3, .inl x3), (4, .inl x4)]) rfl (by decide) (by decide) rfl dX13_placesBehind_103 ?_
      refine J_goto (pc := 106) X (tgt := 6) dX13_placesBehind_106 rfl ?_
      refine J_sub [2, 3, 4, 5, 6, 1, 0] rfl ?_
      exact hself _ _ _ _ hq
theorem tF_X13_placesBehind_6 {κ : Kx} (X : OK κ cX13_placesBehind 7 (some .int) "StruckWordsModel" 2) (x1 : Int32) (x2 : Int32) (x3 : Int32) (x4 : Int32) (k109 : Int32 → Hp → Option (Int32 × Hp)) (self : Int32 → Int32 → Hp → Option (Int32 × Hp)) (x5 : Int32) (x6 : Int32) (h : Hp) (q : (Int32 × Hp)) (hk109 : ∀ (x5 : Int32) (h : Hp) (q : (Int32 × Hp)), k109 x5 h = some q → J κ 109 [(5, .inl x5)] [] h (some (.inl q.1), q.2)) (hself : ∀ (x5 : Int32) (x6 : Int32) (h : Hp) (q : (Int32 × Hp)), self x5 x6 h = some q → J κ 6 [(0, .inr (.inr 155)), (1, .inl x1), (2, .inl x2), (3, .inl x3), (4, .inl x4), (5, .inl x5), (6, .inl x6)] [] h (some (.inl q.1), q.2)) (hq : F_X13_placesBehind_6 x1 x2 x3 x4 k109 self x5 x6 h = some q) : J κ 6 [(0, .inr (.inr 155)), (1, .inl x1), (2, .inl x2), (3, .inl x3), (4, .inl x4), (5, .inl x5), (6, .inl x6)] [] h (some (.inl q.1), q.2) := by
  delta F_X13_placesBehind_6 at hq
  refine J_iload (pc := 6) X (j := 6) rfl dX13_placesBehind_6 ?_
  refine J_aload_n (pc := 8) X (j := 0) (i := 0) rfl rfl dX13_placesBehind_8 ?_
  refine J_getF (pc := 9) X (b := 157) ly155 fl_13_33 rfl dX13_placesBehind_9 ?_
  refine J_sipush (pc := 12) X (v := 437) (by decide) dX13_placesBehind_12 ?_
  refine J_iaload (pc := 15) X ly157 (by decide) dX13_placesBehind_15 ?_
  refine J_icmp_gt (pc := 16) (tgt := 109) X dX13_placesBehind_16 rfl (fun c1 => ?_) (fun c1 => ?_)
  · have hq := ite_t hq c1
    refine J_sub [5] rfl ?_
    exact hk109 _ _ _ hq
  · have hq := ite_f hq c1
    refine J_iload_n (pc := 19) X (j := 1) (i := 1) rfl rfl dX13_placesBehind_19 ?_
    refine J_iload (pc := 20) X (j := 6) rfl dX13_placesBehind_20 ?_
    obtain ⟨v3, h2, hc, hq⟩ := bnd_e hq
    refine J_callS (pc := 22) (as := [.inl x1, .inl x6]) (st := []) (st2 := [.inl v3]) (r1 := (some (.inl v3), h2)) (h2 := h2) (ky := 1) X dX13_placesBehind_22 ca_X13_has cz_X13_has ml_13_257 (by decide) (m_X13_has _ _ _ _ hc) rfl rfl (Nat.le_of_ble_eq_true rfl) rfl rfl ?_
    refine J_if_ne (pc := 25) (tgt := 31) X dX13_placesBehind_25 rfl (fun c4 => ?_) (fun c4 => ?_)
    · have hq := ite_f hq c4
      refine J_iload (pc := 31) X (j := 6) rfl dX13_placesBehind_31 ?_
      refine J_aload_n (pc := 33) X (j := 0) (i := 0) rfl rfl dX13_placesBehind_33 ?_
      refine J_getF (pc := 34) X (b := 157) ly155 fl_13_33 rfl dX13_placesBehind_34 ?_
      refine J_sipush (pc := 37) X (v := 437) (by decide) dX13_placesBehind_37 ?_
      refine J_iaload (pc := 40) X ly157 (by decide) dX13_placesBehind_40 ?_
      refine J_icmp_ge (pc := 41) (tgt := 70) X dX13_placesBehind_41 rfl (fun c5 => ?_) (fun c5 => ?_)
      · have hq := ite_t hq c5
        exact tB_X13_placesBehind_70 X _ _ _ _ _ _ _ _ _ _ hk109 hself hq
      · have hq := ite_f hq c5
        refine J_aload_n (pc := 44) X (j := 0) (i := 0) rfl rfl dX13_placesBehind_44 ?_
        refine J_getF (pc := 45) X (b := 157) ly155 fl_13_33 rfl dX13_placesBehind_45 ?_
        refine J_sipush (pc := 48) X (v := 438) (by decide) dX13_placesBehind_48 ?_
        refine J_iload (pc := 51) X (j := 6) rfl dX13_placesBehind_51 ?_
        refine J_iadd (pc := 53) X dX13_placesBehind_53 ?_
        obtain ⟨g10, hq⟩ := gd hq
        refine J_iaload (pc := 54) X ly157 g10 dX13_placesBehind_54 ?_
        refine J_iload_n (pc := 55) X (j := 2) (i := 2) rfl rfl dX13_placesBehind_55 ?_
        refine J_icmp_ne (pc := 56) (tgt := 70) X dX13_placesBehind_56 rfl (fun c11 => ?_) (fun c11 => ?_)
        · have hq := ite_f hq c11
          exact tB_X13_placesBehind_70 X _ _ _ _ _ _ _ _ _ _ hk109 hself hq
        · have hq := ite_t hq c11
          refine J_iload (pc := 59) X (j := 5) rfl dX13_placesBehind_59 ?_
          refine J_iconst (pc := 61) X (v := 1) (by decide) dX13_placesBehind_61 ?_
          refine J_iload (pc := 62) X (j := 6) rfl dX13_placesBehind_62 ?_
          refine J_iconst (pc := 64) X (v := 1) (by decide) dX13_placesBehind_64 ?_
          refine J_iadd (pc := 65) X dX13_placesBehind_65 ?_
          refine J_ishl (pc := 66) X dX13_placesBehind_66 ?_
          refine J_ior (pc := 67) X dX13_placesBehind_67 ?_
          refine J_ltI hq (fun v12 hq => ?_)
          refine J_istore (pc := 68) X (L' := [(5, .inl v12), (0, .inr (.inr 155)), (1, .inl x1), (2, .inl x2), (3, .inl x3), (4, .inl x4), (6, .inl x6)]) (by decide) rfl dX13_placesBehind_68 ?_
          refine J_sub [1, 2, 3, 4, 5, 0, 6] rfl ?_
          exact tB_X13_placesBehind_70 X _ _ _ _ _ _ _ _ _ _ hk109 hself hq
    · have hq := ite_t hq c4
      refine J_goto (pc := 28) X (tgt := 103) dX13_placesBehind_28 rfl ?_
      refine J_iinc (pc := 103) X (j := 6) (v := 1) (L' := [(6, .inl (x6 + 1)), (0, .inr (.inr 155)), (1, .inl x1), (2, .inl x2), (3, .inl x3), (4, .inl x4), (5, .inl x5)]) rfl (by decide) (by decide) rfl dX13_placesBehind_103 ?_
      refine J_goto (pc := 106) X (tgt := 6) dX13_placesBehind_106 rfl ?_
      refine J_sub [1, 2, 3, 4, 5, 6, 0] rfl ?_
      exact hself _ _ _ _ hq
theorem tL_X13_placesBehind_6 {κ : Kx} (X : OK κ cX13_placesBehind 7 (some .int) "StruckWordsModel" 2) (x1 : Int32) (x2 : Int32) (x3 : Int32) (x4 : Int32) (k109 : Int32 → Hp → Option (Int32 × Hp)) (N : Nat) (x5 : Int32) (x6 : Int32) (h : Hp) (q : (Int32 × Hp)) (hk109 : ∀ (x5 : Int32) (h : Hp) (q : (Int32 × Hp)), k109 x5 h = some q → J κ 109 [(5, .inl x5)] [] h (some (.inl q.1), q.2)) (hq : itr3 (F_X13_placesBehind_6 x1 x2 x3 x4 k109) N x5 x6 h = some q) : J κ 6 [(0, .inr (.inr 155)), (1, .inl x1), (2, .inl x2), (3, .inl x3), (4, .inl x4), (5, .inl x5), (6, .inl x6)] [] h (some (.inl q.1), q.2) :=
  itr3_ind (fun self hs x5 x6 h q hq => tF_X13_placesBehind_6 X x1 x2 x3 x4 k109 self x5 x6 h q hk109 hs hq) N x5 x6 h q hq
theorem tf_X13_placesBehind {κ : Kx} (X : OK κ cX13_placesBehind 7 (some .int) "StruckWordsModel" 2) (x1 : Int32) (x2 : Int32) (x3 : Int32) (x4 : Int32) (h : Hp) (q : (Int32 × Hp)) (hq : f_X13_placesBehind x1 x2 x3 x4 h = some q) : J κ 0 [(0, .inr (.inr 155)), (1, .inl x1), (2, .inl x2), (3, .inl x3), (4, .inl x4)] [] h (some (.inl q.1), q.2) := by
  delta f_X13_placesBehind at hq
  refine J_iconst (pc := 0) X (v := 0) (by decide) dX13_placesBehind_0 ?_
  refine J_istore (pc := 1) X (L' := [(5, .inl 0), (0, .inr (.inr 155)), (1, .inl x1), (2, .inl x2), (3, .inl x3), (4, .inl x4)]) (by decide) rfl dX13_placesBehind_1 ?_
  refine J_iconst (pc := 3) X (v := 0) (by decide) dX13_placesBehind_3 ?_
  refine J_istore (pc := 4) X (L' := [(6, .inl 0), (5, .inl 0), (0, .inr (.inr 155)), (1, .inl x1), (2, .inl x2), (3, .inl x3), (4, .inl x4)]) (by decide) rfl dX13_placesBehind_4 ?_
  refine J_sub [2, 3, 4, 5, 6, 1, 0] rfl ?_
  refine tL_X13_placesBehind_6 X _ _ _ _ _ N0 _ _ _ _ ?_ hq
  · intro v14 h13 q hq
    refine J_iload (pc := 109) X (j := 0) rfl dX13_placesBehind_109 ?_
    obtain rfl := Option.some.inj hq
    exact J_iret (pc := 111) X dX13_placesBehind_111
theorem m_X13_placesBehind (x1 : Int32) (x2 : Int32) (x3 : Int32) (x4 : Int32) (h : Hp) (q : (Int32 × Hp)) (hq : f_X13_placesBehind x1 x2 x3 x4 h = some q) : ∀ l w, CT l w yX13_placesBehind cX13_placesBehind 7 (some .int) 2 [.inr (.inr 155), .inl x1, .inl x2, .inl x3, .inl x4] h (some (.inl q.1), q.2) :=
  CT_of (L0 := [(0, .inr (.inr 155)), (1, .inl x1), (2, .inl x2), (3, .inl x3), (4, .inl x4)]) (by decide) rfl (Nat.le_of_ble_eq_true rfl) (fun κ X => tf_X13_placesBehind X x1 x2 x3 x4 h q  hq)
theorem tF_X13_mends_84 {κ : Kx} (X : OK κ cX13_mends 5 (some .boolean) "StruckWordsModel" 3) (x1 : Int32) (x2 : Int32) (k121 : Int32 → Hp → Option (Int32 × Hp)) (self : Int32 → Int32 → Hp → Option (Int32 × Hp)) (x3 : Int32) (x4 : Int32) (h : Hp) (q : (Int32 × Hp)) (hk121 : ∀ (x3 : Int32) (h : Hp) (q : (Int32 × Hp)), k121 x3 h = some q → J κ 121 [(0, .inr (.inr 155)), (1, .inl x1), (3, .inl x3)] [] h (some (.inl q.1), q.2)) (hself : ∀ (x3 : Int32) (x4 : Int32) (h : Hp) (q : (Int32 × Hp)), self x3 x4 h = some q → J κ 84 [(0, .inr (.inr 155)), (1, .inl x1), (2, .inl x2), (3, .inl x3), (4, .inl x4)] [] h (some (.inl q.1), q.2)) (hq : F_X13_mends_84 x1 x2 k121 self x3 x4 h = some q) : J κ 84 [(0, .inr (.inr 155)), (1, .inl x1), (2, .inl x2), (3, .inl x3), (4, .inl x4)] [] h (some (.inl q.1), q.2) := by
  delta F_X13_mends_84 at hq
  refine J_iload (pc := 84) X (j := 4) rfl dX13_mends_84 ?_
  refine J_aload_n (pc := 86) X (j := 0) (i := 0) rfl rfl dX13_mends_86 ?_
  refine J_getI (pc := 87) X ly155 fl_13_294 dX13_mends_87 ?_
  refine J_icmp_gt (pc := 90) (tgt := 121) X dX13_mends_90 rfl (fun c27 => ?_) (fun c27 => ?_)
  · have hq := ite_t hq c27
    refine J_sub [0, 1, 3] rfl ?_
    exact hk121 _ _ _ hq
  · have hq := ite_f hq c27
    refine J_iload_n (pc := 93) X (j := 3) (i := 3) rfl rfl dX13_mends_93 ?_
    refine J_if_eq (pc := 94) (tgt := 121) X dX13_mends_94 rfl (fun c28 => ?_) (fun c28 => ?_)
    · have hq := ite_t hq c28
      refine J_sub [0, 1, 3] rfl ?_
      exact hk121 _ _ _ hq
    · have hq := ite_f hq c28
      refine J_aload_n (pc := 97) X (j := 0) (i := 0) rfl rfl dX13_mends_97 ?_
      refine J_iload (pc := 98) X (j := 4) rfl dX13_mends_98 ?_
      obtain ⟨v30, h29, hc, hq⟩ := bnd_e hq
      refine J_callV (pc := 100) (as := [.inl x4]) (st := []) (st2 := [.inl v30]) (r1 := (some (.inl v30), h29)) (h2 := h29) (ky := 2) X dX13_mends_100 ca_X13_meansNow ci_X13_meansNow cs_X13_meansNow ml_13_362 (by decide) ly155 rfl rfl (m_X13_meansNow _ _ _ hc) rfl rfl (Nat.le_of_ble_eq_true rfl) rfl rfl ?_
      refine J_iconst (pc := 103) X (v := 1) (by decide) dX13_mends_103 ?_
      refine J_iload_n (pc := 104) X (j := 2) (i := 2) rfl rfl dX13_mends_104 ?_
      refine J_ishl (pc := 105) X dX13_mends_105 ?_
      refine J_icmp_ne (pc := 106) (tgt := 113) X dX13_mends_106 rfl (fun c31 => ?_) (fun c31 => ?_)
      · have hq := ite_f hq c31
        refine J_iconst (pc := 113) X (v := 0) (by decide) dX13_mends_113 ?_
        refine J_istore_n (pc := 114) X (L' := [(3, .inl 0), (0, .inr (.inr 155)), (1, .inl x1), (2, .inl x2), (4, .inl x4)]) (i := 3) rfl (by decide) rfl dX13_mends_114 ?_
        refine J_iinc (pc := 115) X (j := 4) (v := 1) (L' := [(4, .inl (x4 + 1)), (3, .inl 0), (0, .inr (.inr 155)), (1, .inl x1), (2, .inl x2)]) rfl (by decide) (by decide) rfl dX13_mends_115 ?_
        refine J_goto (pc := 118) X (tgt := 84) dX13_mends_118 rfl ?_
        refine J_sub [2, 3, 4, 1, 0] rfl ?_
        exact hself _ _ _ _ hq
      · have hq := ite_t hq c31
        refine J_iconst (pc := 109) X (v := 1) (by decide) dX13_mends_109 ?_
        refine J_goto (pc := 110) X (tgt := 114) dX13_mends_110 rfl ?_
        refine J_istore_n (pc := 114) X (L' := [(3, .inl 1), (0, .inr (.inr 155)), (1, .inl x1), (2, .inl x2), (4, .inl x4)]) (i := 3) rfl (by decide) rfl dX13_mends_114 ?_
        refine J_iinc (pc := 115) X (j := 4) (v := 1) (L' := [(4, .inl (x4 + 1)), (3, .inl 1), (0, .inr (.inr 155)), (1, .inl x1), (2, .inl x2)]) rfl (by decide) (by decide) rfl dX13_mends_115 ?_
        refine J_goto (pc := 118) X (tgt := 84) dX13_mends_118 rfl ?_
        refine J_sub [2, 3, 4, 1, 0] rfl ?_
        exact hself _ _ _ _ hq
theorem tL_X13_mends_84 {κ : Kx} (X : OK κ cX13_mends 5 (some .boolean) "StruckWordsModel" 3) (x1 : Int32) (x2 : Int32) (k121 : Int32 → Hp → Option (Int32 × Hp)) (N : Nat) (x3 : Int32) (x4 : Int32) (h : Hp) (q : (Int32 × Hp)) (hk121 : ∀ (x3 : Int32) (h : Hp) (q : (Int32 × Hp)), k121 x3 h = some q → J κ 121 [(0, .inr (.inr 155)), (1, .inl x1), (3, .inl x3)] [] h (some (.inl q.1), q.2)) (hq : itr3 (F_X13_mends_84 x1 x2 k121) N x3 x4 h = some q) : J κ 84 [(0, .inr (.inr 155)), (1, .inl x1), (2, .inl x2), (3, .inl x3), (4, .inl x4)] [] h (some (.inl q.1), q.2) :=
  itr3_ind (fun self hs x3 x4 h q hq => tF_X13_mends_84 X x1 x2 k121 self x3 x4 h q hk121 hs hq) N x3 x4 h q hq
theorem tB_X13_mends_121 {κ : Kx} (X : OK κ cX13_mends 5 (some .boolean) "StruckWordsModel" 3) (x1 : Int32) (k125 : Hp → Option (Int32 × Hp)) (k254 : Hp → Option (Int32 × Hp)) (self : Hp → Option (Int32 × Hp)) (x3 : Int32) (h : Hp) (q : (Int32 × Hp)) (hk125 : ∀ (h : Hp) (q : (Int32 × Hp)), k125 h = some q → J κ 125 [] [] h (some (.inl q.1), q.2)) (hk254 : ∀ (h : Hp) (q : (Int32 × Hp)), k254 h = some q → J κ 254 [] [] h (some (.inl q.1), q.2)) (hself : ∀ (h : Hp) (q : (Int32 × Hp)), self h = some q → J κ 21 [(0, .inr (.inr 155)), (1, .inl x1)] [] h (some (.inl q.1), q.2)) (hq : B_X13_mends_121 x1 k125 k254 self x3 h = some q) : J κ 121 [(0, .inr (.inr 155)), (1, .inl x1), (3, .inl x3)] [] h (some (.inl q.1), q.2) := by
  delta B_X13_mends_121 at hq
  refine J_iload_n (pc := 121) X (j := 2) (i := 3) rfl rfl dX13_mends_121 ?_
  refine J_if_eq (pc := 122) (tgt := 127) X dX13_mends_122 rfl (fun c34 => ?_) (fun c34 => ?_)
  · have hq := ite_t hq c34
    refine J_aload_n (pc := 127) X (j := 0) (i := 0) rfl rfl dX13_mends_127 ?_
    refine J_dup (pc := 128) X rfl dX13_mends_128 ?_
    refine J_getI (pc := 129) X ly155 fl_13_356 dX13_mends_129 ?_
    refine J_iconst (pc := 132) X (v := 1) (by decide) dX13_mends_132 ?_
    refine J_isub (pc := 133) X dX13_mends_133 ?_
    refine J_putI (pc := 134) X ly155 fp_13_356 dX13_mends_134 ?_
    refine J_ltH hq (fun h35 hq => ?_)
    refine J_goto (pc := 137) X (tgt := 21) dX13_mends_137 rfl ?_
    refine J_sub [0, 1] rfl ?_
    exact hself _ _ hq
  · have hq := ite_f hq c34
    refine J_sub [] rfl ?_
    exact hk125 _ _ hq
theorem tF_X13_mends_21 {κ : Kx} (X : OK κ cX13_mends 5 (some .boolean) "StruckWordsModel" 3) (x1 : Int32) (k125 : Hp → Option (Int32 × Hp)) (k254 : Hp → Option (Int32 × Hp)) (self : Hp → Option (Int32 × Hp)) (h : Hp) (q : (Int32 × Hp)) (hk125 : ∀ (h : Hp) (q : (Int32 × Hp)), k125 h = some q → J κ 125 [] [] h (some (.inl q.1), q.2)) (hk254 : ∀ (h : Hp) (q : (Int32 × Hp)), k254 h = some q → J κ 254 [] [] h (some (.inl q.1), q.2)) (hself : ∀ (h : Hp) (q : (Int32 × Hp)), self h = some q → J κ 21 [(0, .inr (.inr 155)), (1, .inl x1)] [] h (some (.inl q.1), q.2)) (hq : F_X13_mends_21 x1 k125 k254 self h = some q) : J κ 21 [(0, .inr (.inr 155)), (1, .inl x1)] [] h (some (.inl q.1), q.2) := by
  delta F_X13_mends_21 at hq
  refine J_aload_n (pc := 21) X (j := 0) (i := 0) rfl rfl dX13_mends_21 ?_
  refine J_getI (pc := 22) X ly155 fl_13_356 dX13_mends_22 ?_
  refine J_if_lt (pc := 25) (tgt := 254) X dX13_mends_25 rfl (fun c3 => ?_) (fun c3 => ?_)
  · have hq := ite_t hq c3
    refine J_sub [] rfl ?_
    exact hk254 _ _ hq
  · have hq := ite_f hq c3
    refine J_aload_n (pc := 28) X (j := 0) (i := 0) rfl rfl dX13_mends_28 ?_
    refine J_getI (pc := 29) X ly155 fl_13_356 dX13_mends_29 ?_
    refine J_aload_n (pc := 32) X (j := 0) (i := 0) rfl rfl dX13_mends_32 ?_
    refine J_getI (pc := 33) X ly155 fl_13_353 dX13_mends_33 ?_
    refine J_icmp_ne (pc := 36) (tgt := 140) X dX13_mends_36 rfl (fun c4 => ?_) (fun c4 => ?_)
    · have hq := ite_f hq c4
      refine J_aload_n (pc := 140) X (j := 0) (i := 0) rfl rfl dX13_mends_140 ?_
      refine J_getF (pc := 141) X (b := 173) ly155 fl_13_87 rfl dX13_mends_141 ?_
      refine J_aload_n (pc := 144) X (j := 0) (i := 0) rfl rfl dX13_mends_144 ?_
      refine J_getI (pc := 145) X ly155 fl_13_356 dX13_mends_145 ?_
      obtain ⟨g5, hq⟩ := gd hq
      refine J_iaload (pc := 148) X ly173 g5 dX13_mends_148 ?_
      refine J_ltI hq (fun v6 hq => ?_)
      refine J_istore_n (pc := 149) X (L' := [(2, .inl v6), (0, .inr (.inr 155)), (1, .inl x1)]) (i := 2) rfl (by decide) rfl dX13_mends_149 ?_
      refine J_aload_n (pc := 150) X (j := 1) (i := 0) rfl rfl dX13_mends_150 ?_
      refine J_getF (pc := 151) X (b := 173) ly155 fl_13_87 rfl dX13_mends_151 ?_
      refine J_aload_n (pc := 154) X (j := 1) (i := 0) rfl rfl dX13_mends_154 ?_
      refine J_getI (pc := 155) X ly155 fl_13_356 dX13_mends_155 ?_
      refine J_dup2 (pc := 158) X rfl rfl dX13_mends_158 ?_
      obtain ⟨g7, hq⟩ := gd hq
      refine J_iaload (pc := 159) X ly173 g7 dX13_mends_159 ?_
      refine J_iconst (pc := 160) X (v := 1) (by decide) dX13_mends_160 ?_
      refine J_iadd (pc := 161) X dX13_mends_161 ?_
      obtain ⟨g8, hq⟩ := gd hq
      refine J_iastore (pc := 162) X ly173 g8 dX13_mends_162 ?_
      refine J_ltH hq (fun h9 hq => ?_)
      refine J_iload_n (pc := 163) X (j := 0) (i := 2) rfl rfl dX13_mends_163 ?_
      refine J_aload_n (pc := 164) X (j := 1) (i := 0) rfl rfl dX13_mends_164 ?_
      refine J_getF (pc := 165) X (b := 157) ly155 fl_13_33 rfl dX13_mends_165 ?_
      refine J_iconst (pc := 168) X (v := 2) (by decide) dX13_mends_168 ?_
      refine J_iaload (pc := 169) X ly157 (by decide) dX13_mends_169 ?_
      refine J_icmp_lt (pc := 170) (tgt := 186) X dX13_mends_170 rfl (fun c10 => ?_) (fun c10 => ?_)
      · have hq := ite_t hq c10
        refine J_aload_n (pc := 186) X (j := 1) (i := 0) rfl rfl dX13_mends_186 ?_
        refine J_aload_n (pc := 187) X (j := 1) (i := 0) rfl rfl dX13_mends_187 ?_
        refine J_getF (pc := 188) X (b := 177) ly155 fl_13_99 rfl dX13_mends_188 ?_
        refine J_aload_n (pc := 191) X (j := 1) (i := 0) rfl rfl dX13_mends_191 ?_
        refine J_getI (pc := 192) X ly155 fl_13_356 dX13_mends_192 ?_
        obtain ⟨g11, hq⟩ := gd hq
        refine J_iaload (pc := 195) X ly177 g11 dX13_mends_195 ?_
        refine J_iload_n (pc := 196) X (j := 0) (i := 2) rfl rfl dX13_mends_196 ?_
        refine J_aload_n (pc := 197) X (j := 1) (i := 0) rfl rfl dX13_mends_197 ?_
        refine J_getI (pc := 198) X ly155 fl_13_356 dX13_mends_198 ?_
        refine J_iload_n (pc := 201) X (j := 2) (i := 1) rfl rfl dX13_mends_201 ?_
        obtain ⟨v13, h12, hc, hq⟩ := bnd_e hq
        refine J_callV (pc := 202) (as := [.inl (h9.1 177 ((h9.1 155 43).toNatClampNeg)), .inl v6, .inl (h9.1 155 43), .inl x1]) (st := []) (st2 := [.inl v13]) (r1 := (some (.inl v13), h12)) (h2 := h12) (ky := 2) X dX13_mends_202 ca_X13_placesBehind ci_X13_placesBehind cs_X13_placesBehind ml_13_395 (by decide) ly155 rfl rfl (m_X13_placesBehind _ _ _ _ _ _ hc) rfl rfl (Nat.le_of_ble_eq_true rfl) rfl rfl ?_
        refine J_istore_n (pc := 205) X (L' := [(3, .inl v13), (2, .inl v6), (0, .inr (.inr 155)), (1, .inl x1)]) (i := 3) rfl (by decide) rfl dX13_mends_205 ?_
        refine J_iload_n (pc := 206) X (j := 0) (i := 3) rfl rfl dX13_mends_206 ?_
        refine J_if_ne (pc := 207) (tgt := 213) X dX13_mends_207 rfl (fun c14 => ?_) (fun c14 => ?_)
        · have hq := ite_f hq c14
          refine J_aload_n (pc := 213) X (j := 2) (i := 0) rfl rfl dX13_mends_213 ?_
          refine J_getF (pc := 214) X (b := 177) ly155 fl_13_99 rfl dX13_mends_214 ?_
          refine J_aload_n (pc := 217) X (j := 2) (i := 0) rfl rfl dX13_mends_217 ?_
          refine J_getI (pc := 218) X ly155 fl_13_356 dX13_mends_218 ?_
          refine J_iconst (pc := 221) X (v := 1) (by decide) dX13_mends_221 ?_
          refine J_iadd (pc := 222) X dX13_mends_222 ?_
          refine J_iload_n (pc := 223) X (j := 0) (i := 3) rfl rfl dX13_mends_223 ?_
          obtain ⟨g15, hq⟩ := gd hq
          refine J_iastore (pc := 224) X ly177 g15 dX13_mends_224 ?_
          refine J_ltH hq (fun h16 hq => ?_)
          refine J_aload_n (pc := 225) X (j := 2) (i := 0) rfl rfl dX13_mends_225 ?_
          refine J_iload_n (pc := 226) X (j := 1) (i := 2) rfl rfl dX13_mends_226 ?_
          obtain ⟨h17, hc, hq⟩ := bnv_e hq
          refine J_callV (pc := 227) (as := [.inl v6]) (st := []) (st2 := []) (r1 := (none, h17)) (h2 := h17) (ky := 2) X dX13_mends_227 ca_X13_step ci_X13_step cs_X13_step ml_13_359 (by decide) ly155 rfl rfl (m_X13_step _ _ _ hc) rfl rfl (Nat.le_of_ble_eq_true rfl) rfl rfl ?_
          refine J_aload_n (pc := 230) X (j := 2) (i := 0) rfl rfl dX13_mends_230 ?_
          refine J_getI (pc := 231) X ly155 fl_13_356 dX13_mends_231 ?_
          refine J_aload_n (pc := 234) X (j := 2) (i := 0) rfl rfl dX13_mends_234 ?_
          refine J_getI (pc := 235) X ly155 fl_13_353 dX13_mends_235 ?_
          refine J_icmp_ge (pc := 238) (tgt := 251) X dX13_mends_238 rfl (fun c18 => ?_) (fun c18 => ?_)
          · have hq := ite_t hq c18
            refine J_goto (pc := 251) X (tgt := 21) dX13_mends_251 rfl ?_
            refine J_sub [2, 3] rfl ?_
            exact hself _ _ hq
          · have hq := ite_f hq c18
            refine J_aload_n (pc := 241) X (j := 2) (i := 0) rfl rfl dX13_mends_241 ?_
            refine J_getF (pc := 242) X (b := 173) ly155 fl_13_87 rfl dX13_mends_242 ?_
            refine J_aload_n (pc := 245) X (j := 2) (i := 0) rfl rfl dX13_mends_245 ?_
            refine J_getI (pc := 246) X ly155 fl_13_356 dX13_mends_246 ?_
            refine J_iconst (pc := 249) X (v := 0) (by decide) dX13_mends_249 ?_
            obtain ⟨g19, hq⟩ := gd hq
            refine J_iastore (pc := 250) X ly173 g19 dX13_mends_250 ?_
            refine J_ltH hq (fun h20 hq => ?_)
            refine J_goto (pc := 251) X (tgt := 21) dX13_mends_251 rfl ?_
            refine J_sub [2, 3] rfl ?_
            exact hself _ _ hq
        · have hq := ite_t hq c14
          refine J_goto (pc := 210) X (tgt := 21) dX13_mends_210 rfl ?_
          refine J_sub [2, 3] rfl ?_
          exact hself _ _ hq
      · have hq := ite_f hq c10
        refine J_aload_n (pc := 173) X (j := 1) (i := 0) rfl rfl dX13_mends_173 ?_
        refine J_dup (pc := 174) X rfl dX13_mends_174 ?_
        refine J_getI (pc := 175) X ly155 fl_13_356 dX13_mends_175 ?_
        refine J_iconst (pc := 178) X (v := 1) (by decide) dX13_mends_178 ?_
        refine J_isub (pc := 179) X dX13_mends_179 ?_
        refine J_putI (pc := 180) X ly155 fp_13_356 dX13_mends_180 ?_
        refine J_ltH hq (fun h21 hq => ?_)
        refine J_goto (pc := 183) X (tgt := 21) dX13_mends_183 rfl ?_
        refine J_sub [1, 2] rfl ?_
        exact hself _ _ hq
    · have hq := ite_t hq c4
      refine J_aload_n (pc := 39) X (j := 0) (i := 0) rfl rfl dX13_mends_39 ?_
      refine J_iconst (pc := 40) X (v := 0) (by decide) dX13_mends_40 ?_
      obtain ⟨v23, h22, hc, hq⟩ := bnd_e hq
      refine J_callV (pc := 41) (as := [.inl 0]) (st := []) (st2 := [.inl v23]) (r1 := (some (.inl v23), h22)) (h2 := h22) (ky := 2) X dX13_mends_41 ca_X13_meansNow ci_X13_meansNow cs_X13_meansNow ml_13_362 (by decide) ly155 rfl rfl (m_X13_meansNow _ _ _ hc) rfl rfl (Nat.le_of_ble_eq_true rfl) rfl rfl ?_
      obtain ⟨v25, h24, hc, hq⟩ := bnd_e hq
      refine J_callS (pc := 44) (as := [.inl v23]) (st := []) (st2 := [.inl v25]) (r1 := (some (.inl v25), h24)) (h2 := h24) (ky := 1) X dX13_mends_44 ca_X13_only cz_X13_only ml_13_345 (by decide) (m_X13_only _ _ _ hc) rfl rfl (Nat.le_of_ble_eq_true rfl) rfl rfl ?_
      refine J_istore_n (pc := 47) X (L' := [(2, .inl v25), (0, .inr (.inr 155)), (1, .inl x1)]) (i := 2) rfl (by decide) rfl dX13_mends_47 ?_
      refine J_iload_n (pc := 48) X (j := 0) (i := 2) rfl rfl dX13_mends_48 ?_
      refine J_if_lt (pc := 49) (tgt := 79) X dX13_mends_49 rfl (fun c26 => ?_) (fun c26 => ?_)
      · have hq := ite_t hq c26
        refine J_iconst (pc := 79) X (v := 0) (by decide) dX13_mends_79 ?_
        refine J_istore_n (pc := 80) X (L' := [(3, .inl 0), (2, .inl v25), (0, .inr (.inr 155)), (1, .inl x1)]) (i := 3) rfl (by decide) rfl dX13_mends_80 ?_
        refine J_iconst (pc := 81) X (v := 1) (by decide) dX13_mends_81 ?_
        refine J_istore (pc := 82) X (L' := [(4, .inl 1), (3, .inl 0), (2, .inl v25), (0, .inr (.inr 155)), (1, .inl x1)]) (by decide) rfl dX13_mends_82 ?_
        refine J_sub [3, 4, 2, 1, 0] rfl ?_
        refine tL_X13_mends_84 X _ _ _ N0 _ _ _ _ ?_ hq
        · intro v33 h32 q hq
          exact tB_X13_mends_121 X _ _ _ _ _ _ _ hk125 hk254 hself hq
      · have hq := ite_f hq c26
        refine J_aload_n (pc := 52) X (j := 1) (i := 0) rfl rfl dX13_mends_52 ?_
        refine J_getF (pc := 53) X (b := 177) ly155 fl_13_99 rfl dX13_mends_53 ?_
        refine J_aload_n (pc := 56) X (j := 1) (i := 0) rfl rfl dX13_mends_56 ?_
        refine J_getI (pc := 57) X ly155 fl_13_356 dX13_mends_57 ?_
        obtain ⟨g36, hq⟩ := gd hq
        refine J_iaload (pc := 60) X ly177 g36 dX13_mends_60 ?_
        refine J_aload_n (pc := 61) X (j := 1) (i := 0) rfl rfl dX13_mends_61 ?_
        refine J_getF (pc := 62) X (b := 157) ly155 fl_13_33 rfl dX13_mends_62 ?_
        refine J_sipush (pc := 65) X (v := 437) (by decide) dX13_mends_65 ?_
        refine J_iaload (pc := 68) X ly157 (by decide) dX13_mends_68 ?_
        obtain ⟨v38, h37, hc, hq⟩ := bnd_e hq
        refine J_callS (pc := 69) (as := [.inl (h24.1 177 ((h24.1 155 43).toNatClampNeg)), .inl (h24.1 157 ((437 : Int32).toNatClampNeg))]) (st := []) (st2 := [.inl v38]) (r1 := (some (.inl v38), h37)) (h2 := h37) (ky := 1) X dX13_mends_69 ca_X13_has cz_X13_has ml_13_257 (by decide) (m_X13_has _ _ _ _ hc) rfl rfl (Nat.le_of_ble_eq_true rfl) rfl rfl ?_
        refine J_if_eq (pc := 72) (tgt := 79) X dX13_mends_72 rfl (fun c39 => ?_) (fun c39 => ?_)
        · have hq := ite_t hq c39
          refine J_iconst (pc := 79) X (v := 0) (by decide) dX13_mends_79 ?_
          refine J_istore_n (pc := 80) X (L' := [(3, .inl 0), (2, .inl v25), (0, .inr (.inr 155)), (1, .inl x1)]) (i := 3) rfl (by decide) rfl dX13_mends_80 ?_
          refine J_iconst (pc := 81) X (v := 1) (by decide) dX13_mends_81 ?_
          refine J_istore (pc := 82) X (L' := [(4, .inl 1), (3, .inl 0), (2, .inl v25), (0, .inr (.inr 155)), (1, .inl x1)]) (by decide) rfl dX13_mends_82 ?_
          refine J_sub [3, 4, 2, 1, 0] rfl ?_
          refine tL_X13_mends_84 X _ _ _ N0 _ _ _ _ ?_ hq
          · intro v41 h40 q hq
            exact tB_X13_mends_121 X _ _ _ _ _ _ _ hk125 hk254 hself hq
        · have hq := ite_f hq c39
          refine J_iconst (pc := 75) X (v := 1) (by decide) dX13_mends_75 ?_
          refine J_goto (pc := 76) X (tgt := 80) dX13_mends_76 rfl ?_
          refine J_istore_n (pc := 80) X (L' := [(3, .inl 1), (2, .inl v25), (0, .inr (.inr 155)), (1, .inl x1)]) (i := 3) rfl (by decide) rfl dX13_mends_80 ?_
          refine J_iconst (pc := 81) X (v := 1) (by decide) dX13_mends_81 ?_
          refine J_istore (pc := 82) X (L' := [(4, .inl 1), (3, .inl 1), (2, .inl v25), (0, .inr (.inr 155)), (1, .inl x1)]) (by decide) rfl dX13_mends_82 ?_
          refine J_sub [3, 4, 2, 1, 0] rfl ?_
          refine tL_X13_mends_84 X _ _ _ N0 _ _ _ _ ?_ hq
          · intro v43 h42 q hq
            exact tB_X13_mends_121 X _ _ _ _ _ _ _ hk125 hk254 hself hq
theorem tL_X13_mends_21 {κ : Kx} (X : OK κ cX13_mends 5 (some .boolean) "StruckWordsModel" 3) (x1 : Int32) (k125 : Hp → Option (Int32 × Hp)) (k254 : Hp → Option (Int32 × Hp)) (N : Nat) (h : Hp) (q : (Int32 × Hp)) (hk125 : ∀ (h : Hp) (q : (Int32 × Hp)), k125 h = some q → J κ 125 [] [] h (some (.inl q.1), q.2)) (hk254 : ∀ (h : Hp) (q : (Int32 × Hp)), k254 h = some q → J κ 254 [] [] h (some (.inl q.1), q.2)) (hq : itr1 (F_X13_mends_21 x1 k125 k254) N h = some q) : J κ 21 [(0, .inr (.inr 155)), (1, .inl x1)] [] h (some (.inl q.1), q.2) :=
  itr1_ind (fun self hs  h q hq => tF_X13_mends_21 X x1 k125 k254 self h q hk125 hk254 hs hq) N  h q hq
theorem tf_X13_mends {κ : Kx} (X : OK κ cX13_mends 5 (some .boolean) "StruckWordsModel" 3) (x1 : Int32) (h : Hp) (q : (Int32 × Hp)) (hq : f_X13_mends x1 h = some q) : J κ 0 [(0, .inr (.inr 155)), (1, .inl x1)] [] h (some (.inl q.1), q.2) := by
  delta f_X13_mends at hq
  refine J_aload_n (pc := 0) X (j := 0) (i := 0) rfl rfl dX13_mends_0 ?_
  refine J_aload_n (pc := 1) X (j := 0) (i := 0) rfl rfl dX13_mends_1 ?_
  refine J_getF (pc := 2) X (b := 157) ly155 fl_13_33 rfl dX13_mends_2 ?_
  refine J_sipush (pc := 5) X (v := 437) (by decide) dX13_mends_5 ?_
  refine J_iaload (pc := 8) X ly157 (by decide) dX13_mends_8 ?_
  refine J_iload_n (pc := 9) X (j := 1) (i := 1) rfl rfl dX13_mends_9 ?_
  refine J_iadd (pc := 10) X dX13_mends_10 ?_
  obtain ⟨h1, hc, hq⟩ := bnv_e hq
  refine J_callV (pc := 11) (as := [.inl ((h.1 157 ((437 : Int32).toNatClampNeg)) + x1)]) (st := []) (st2 := []) (r1 := (none, h1)) (h2 := h1) (ky := 1) X dX13_mends_11 ca_X13_begin ci_X13_begin cs_X13_begin ml_13_365 (by decide) ly155 rfl rfl (m_X13_begin _ _ _ hc) rfl rfl (Nat.le_of_ble_eq_true rfl) rfl rfl ?_
  refine J_aload_n (pc := 14) X (j := 0) (i := 0) rfl rfl dX13_mends_14 ?_
  refine J_getF (pc := 15) X (b := 177) ly155 fl_13_99 rfl dX13_mends_15 ?_
  refine J_iconst (pc := 18) X (v := 0) (by decide) dX13_mends_18 ?_
  refine J_iconst (pc := 19) X (v := 1) (by decide) dX13_mends_19 ?_
  refine J_iastore (pc := 20) X ly177 (by decide) dX13_mends_20 ?_
  refine J_ltH hq (fun h2 hq => ?_)
  refine tL_X13_mends_21 X _ _ _ N0 _ _ ?_ ?_ hq
  · intro h44 q hq
    refine J_iconst (pc := 125) X (v := 1) (by decide) dX13_mends_125 ?_
    obtain rfl := Option.some.inj hq
    exact J_zret (pc := 126) X (by decide) dX13_mends_126
  · intro h45 q hq
    refine J_iconst (pc := 254) X (v := 0) (by decide) dX13_mends_254 ?_
    obtain rfl := Option.some.inj hq
    exact J_zret (pc := 255) X (by decide) dX13_mends_255
theorem m_X13_mends (x1 : Int32) (h : Hp) (q : (Int32 × Hp)) (hq : f_X13_mends x1 h = some q) : ∀ l w, CT l w yX13_mends cX13_mends 5 (some .boolean) 3 [.inr (.inr 155), .inl x1] h (some (.inl q.1), q.2) :=
  CT_of (L0 := [(0, .inr (.inr 155)), (1, .inl x1)]) (by decide) rfl (Nat.le_of_ble_eq_true rfl) (fun κ X => tf_X13_mends X x1 h q  hq)
theorem tF_X13_mend_31 {κ : Kx} (X : OK κ cX13_mend 2 (some .int) "StruckWordsModel" 4) (k47 : Int32 → Hp → Option (Int32 × Hp)) (k70 : Hp → Option (Int32 × Hp)) (self : Int32 → Hp → Option (Int32 × Hp)) (x1 : Int32) (h : Hp) (q : (Int32 × Hp)) (hk47 : ∀ (x1 : Int32) (h : Hp) (q : (Int32 × Hp)), k47 x1 h = some q → J κ 47 [(0, .inr (.inr 155)), (1, .inl x1)] [] h (some (.inl q.1), q.2)) (hk70 : ∀ (h : Hp) (q : (Int32 × Hp)), k70 h = some q → J κ 70 [] [] h (some (.inl q.1), q.2)) (hself : ∀ (x1 : Int32) (h : Hp) (q : (Int32 × Hp)), self x1 h = some q → J κ 31 [(0, .inr (.inr 155)), (1, .inl x1)] [] h (some (.inl q.1), q.2)) (hq : F_X13_mend_31 k47 k70 self x1 h = some q) : J κ 31 [(0, .inr (.inr 155)), (1, .inl x1)] [] h (some (.inl q.1), q.2) := by
  delta F_X13_mend_31 at hq
  refine J_iload_n (pc := 31) X (j := 1) (i := 1) rfl rfl dX13_mend_31 ?_
  refine J_iconst (pc := 32) X (v := 4) (by decide) dX13_mend_32 ?_
  refine J_icmp_ge (pc := 33) (tgt := 70) X dX13_mend_33 rfl (fun c6 => ?_) (fun c6 => ?_)
  · have hq := ite_t hq c6
    refine J_sub [] rfl ?_
    exact hk70 _ _ hq
  · have hq := ite_f hq c6
    refine J_aload_n (pc := 36) X (j := 0) (i := 0) rfl rfl dX13_mend_36 ?_
    refine J_iload_n (pc := 37) X (j := 1) (i := 1) rfl rfl dX13_mend_37 ?_
    obtain ⟨v8, h7, hc, hq⟩ := bnd_e hq
    refine J_callV (pc := 38) (as := [.inl x1]) (st := []) (st2 := [.inl v8]) (r1 := (some (.inl v8), h7)) (h2 := h7) (ky := 3) X dX13_mend_38 ca_X13_mends ci_X13_mends cs_X13_mends ml_13_399 (by decide) ly155 rfl rfl (m_X13_mends _ _ _ hc) rfl rfl (Nat.le_of_ble_eq_true rfl) rfl rfl ?_
    refine J_if_ne (pc := 41) (tgt := 47) X dX13_mend_41 rfl (fun c9 => ?_) (fun c9 => ?_)
    · have hq := ite_f hq c9
      exact hk47 _ _ _ hq
    · have hq := ite_t hq c9
      refine J_goto (pc := 44) X (tgt := 64) dX13_mend_44 rfl ?_
      refine J_iinc (pc := 64) X (j := 1) (v := 1) (L' := [(1, .inl (x1 + 1)), (0, .inr (.inr 155))]) rfl (by decide) (by decide) rfl dX13_mend_64 ?_
      refine J_goto (pc := 67) X (tgt := 31) dX13_mend_67 rfl ?_
      refine J_sub [1, 0] rfl ?_
      exact hself _ _ _ hq
theorem tL_X13_mend_31 {κ : Kx} (X : OK κ cX13_mend 2 (some .int) "StruckWordsModel" 4) (k47 : Int32 → Hp → Option (Int32 × Hp)) (k70 : Hp → Option (Int32 × Hp)) (N : Nat) (x1 : Int32) (h : Hp) (q : (Int32 × Hp)) (hk47 : ∀ (x1 : Int32) (h : Hp) (q : (Int32 × Hp)), k47 x1 h = some q → J κ 47 [(0, .inr (.inr 155)), (1, .inl x1)] [] h (some (.inl q.1), q.2)) (hk70 : ∀ (h : Hp) (q : (Int32 × Hp)), k70 h = some q → J κ 70 [] [] h (some (.inl q.1), q.2)) (hq : itr2 (F_X13_mend_31 k47 k70) N x1 h = some q) : J κ 31 [(0, .inr (.inr 155)), (1, .inl x1)] [] h (some (.inl q.1), q.2) :=
  itr2_ind (fun self hs x1 h q hq => tF_X13_mend_31 X k47 k70 self x1 h q hk47 hk70 hs hq) N x1 h q hq
theorem tf_X13_mend {κ : Kx} (X : OK κ cX13_mend 2 (some .int) "StruckWordsModel" 4) (h : Hp) (q : (Int32 × Hp)) (hq : f_X13_mend h = some q) : J κ 0 [(0, .inr (.inr 155))] [] h (some (.inl q.1), q.2) := by
  delta f_X13_mend at hq
  refine J_aload_n (pc := 0) X (j := 0) (i := 0) rfl rfl dX13_mend_0 ?_
  refine J_iconst (pc := 1) X (v := 0) (by decide) dX13_mend_1 ?_
  refine J_putI (pc := 2) X ly155 fp_13_1 dX13_mend_2 ?_
  refine J_ltH hq (fun h1 hq => ?_)
  refine J_aload_n (pc := 5) X (j := 0) (i := 0) rfl rfl dX13_mend_5 ?_
  refine J_getF (pc := 6) X (b := 157) ly155 fl_13_33 rfl dX13_mend_6 ?_
  refine J_sipush (pc := 9) X (v := 437) (by decide) dX13_mend_9 ?_
  refine J_iaload (pc := 12) X ly157 (by decide) dX13_mend_12 ?_
  refine J_iconst (pc := 13) X (v := 1) (by decide) dX13_mend_13 ?_
  refine J_bipush (pc := 14) X (v := 10) (by decide) dX13_mend_14 ?_
  obtain ⟨v3, h2, hc, hq⟩ := bnd_e hq
  refine J_callS (pc := 16) (as := [.inl (h1.1 157 ((437 : Int32).toNatClampNeg)), .inl 1, .inl 10]) (st := []) (st2 := [.inl v3]) (r1 := (some (.inl v3), h2)) (h2 := h2) (ky := 1) X dX13_mend_16 ca_X13_isIn cz_X13_isIn ml_13_204 (by decide) (m_X13_isIn _ _ _ _ _ hc) rfl rfl (Nat.le_of_ble_eq_true rfl) rfl rfl ?_
  refine J_if_ne (pc := 19) (tgt := 25) X dX13_mend_19 rfl (fun c4 => ?_) (fun c4 => ?_)
  · have hq := ite_f hq c4
    refine J_aload_n (pc := 25) X (j := 0) (i := 0) rfl rfl dX13_mend_25 ?_
    obtain ⟨h5, hc, hq⟩ := bnv_e hq
    refine J_callV (pc := 26) (as := []) (st := []) (st2 := []) (r1 := (none, h5)) (h2 := h5) (ky := 2) X dX13_mend_26 ca_X13_settle ci_X13_settle cs_X13_settle ml_13_328 (by decide) ly155 rfl rfl (m_X13_settle _ _ hc) rfl rfl (Nat.le_of_ble_eq_true rfl) rfl rfl ?_
    refine J_iconst (pc := 29) X (v := 0) (by decide) dX13_mend_29 ?_
    refine J_istore_n (pc := 30) X (L' := [(1, .inl 0), (0, .inr (.inr 155))]) (i := 1) rfl (by decide) rfl dX13_mend_30 ?_
    refine J_sub [1, 0] rfl ?_
    refine tL_X13_mend_31 X _ _ N0 _ _ _ ?_ ?_ hq
    · intro v11 h10 q hq
      refine J_aload_n (pc := 47) X (j := 0) (i := 0) rfl rfl dX13_mend_47 ?_
      refine J_aload_n (pc := 48) X (j := 0) (i := 0) rfl rfl dX13_mend_48 ?_
      refine J_getF (pc := 49) X (b := 157) ly155 fl_13_33 rfl dX13_mend_49 ?_
      refine J_sipush (pc := 52) X (v := 437) (by decide) dX13_mend_52 ?_
      refine J_iaload (pc := 55) X ly157 (by decide) dX13_mend_55 ?_
      refine J_iload_n (pc := 56) X (j := 1) (i := 1) rfl rfl dX13_mend_56 ?_
      refine J_iadd (pc := 57) X dX13_mend_57 ?_
      obtain ⟨v13, h12, hc, hq⟩ := bnd_e hq
      refine J_callV (pc := 58) (as := [.inl ((h10.1 157 ((437 : Int32).toNatClampNeg)) + v11)]) (st := []) (st2 := [.inl v13]) (r1 := (some (.inl v13), h12)) (h2 := h12) (ky := 1) X dX13_mend_58 ca_X13_keepRow ci_X13_keepRow cs_X13_keepRow ml_13_386 (by decide) ly155 rfl rfl (m_X13_keepRow _ _ _ hc) rfl rfl (Nat.le_of_ble_eq_true rfl) rfl rfl ?_
      refine J_pop (pc := 61) X rfl dX13_mend_61 ?_
      refine J_iload_n (pc := 62) X (j := 1) (i := 1) rfl rfl dX13_mend_62 ?_
      obtain rfl := Option.some.inj hq
      exact J_iret (pc := 63) X dX13_mend_63
    · intro h14 q hq
      refine J_iconst (pc := 70) X (v := (-1)) (by decide) dX13_mend_70 ?_
      obtain rfl := Option.some.inj hq
      exact J_iret (pc := 71) X dX13_mend_71
  · have hq := ite_t hq c4
    refine J_bipush (pc := 22) X (v := (-2)) (by decide) dX13_mend_22 ?_
    obtain rfl := Option.some.inj hq
    exact J_iret (pc := 24) X dX13_mend_24
theorem m_X13_mend (h : Hp) (q : (Int32 × Hp)) (hq : f_X13_mend  h = some q) : ∀ l w, CT l w yX13_mend cX13_mend 2 (some .int) 4 [.inr (.inr 155)] h (some (.inl q.1), q.2) :=
  CT_of (L0 := [(0, .inr (.inr 155))]) (by decide) rfl (Nat.le_of_ble_eq_true rfl) (fun κ X => tf_X13_mend X  h q  hq)
theorem tf_X13_mayBe {κ : Kx} (X : OK κ cX13_mayBe 3 (some .boolean) "StruckWordsModel" 1) (x1 : Int32) (x2 : Int32) (h : Hp) (q : (Int32 × Hp)) (hq : f_X13_mayBe x1 x2 h = some q) : J κ 0 [(0, .inr (.inr 155)), (1, .inl x1), (2, .inl x2)] [] h (some (.inl q.1), q.2) := by
  delta f_X13_mayBe at hq
  refine J_aload_n (pc := 0) X (j := 0) (i := 0) rfl rfl dX13_mayBe_0 ?_
  refine J_getF (pc := 1) X (b := 178) ly155 fl_13_102 rfl dX13_mayBe_1 ?_
  refine J_iload_n (pc := 4) X (j := 1) (i := 1) rfl rfl dX13_mayBe_4 ?_
  obtain ⟨g1, hq⟩ := gd hq
  refine J_iaload (pc := 5) X ly178 g1 dX13_mayBe_5 ?_
  refine J_if_lt (pc := 6) (tgt := 19) X dX13_mayBe_6 rfl (fun c2 => ?_) (fun c2 => ?_)
  · have hq := ite_t hq c2
    refine J_iconst (pc := 19) X (v := 1) (by decide) dX13_mayBe_19 ?_
    refine J_goto (pc := 20) X (tgt := 24) dX13_mayBe_20 rfl ?_
    obtain rfl := Option.some.inj hq
    exact J_zret (pc := 24) X (by decide) dX13_mayBe_24
  · have hq := ite_f hq c2
    refine J_aload_n (pc := 9) X (j := 0) (i := 0) rfl rfl dX13_mayBe_9 ?_
    refine J_getF (pc := 10) X (b := 178) ly155 fl_13_102 rfl dX13_mayBe_10 ?_
    refine J_iload_n (pc := 13) X (j := 1) (i := 1) rfl rfl dX13_mayBe_13 ?_
    obtain ⟨g3, hq⟩ := gd hq
    refine J_iaload (pc := 14) X ly178 g3 dX13_mayBe_14 ?_
    refine J_iload_n (pc := 15) X (j := 2) (i := 2) rfl rfl dX13_mayBe_15 ?_
    refine J_icmp_ne (pc := 16) (tgt := 23) X dX13_mayBe_16 rfl (fun c4 => ?_) (fun c4 => ?_)
    · have hq := ite_f hq c4
      refine J_iconst (pc := 23) X (v := 0) (by decide) dX13_mayBe_23 ?_
      obtain rfl := Option.some.inj hq
      exact J_zret (pc := 24) X (by decide) dX13_mayBe_24
    · have hq := ite_t hq c4
      refine J_iconst (pc := 19) X (v := 1) (by decide) dX13_mayBe_19 ?_
      refine J_goto (pc := 20) X (tgt := 24) dX13_mayBe_20 rfl ?_
      obtain rfl := Option.some.inj hq
      exact J_zret (pc := 24) X (by decide) dX13_mayBe_24
theorem m_X13_mayBe (x1 : Int32) (x2 : Int32) (h : Hp) (q : (Int32 × Hp)) (hq : f_X13_mayBe x1 x2 h = some q) : ∀ l w, CT l w yX13_mayBe cX13_mayBe 3 (some .boolean) 1 [.inr (.inr 155), .inl x1, .inl x2] h (some (.inl q.1), q.2) :=
  CT_of (L0 := [(0, .inr (.inr 155)), (1, .inl x1), (2, .inl x2)]) (by decide) rfl (Nat.le_of_ble_eq_true rfl) (fun κ X => tf_X13_mayBe X x1 x2 h q  hq)
