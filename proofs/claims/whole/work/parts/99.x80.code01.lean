theorem tf_X1_tell {κ : Kx} (X : OK κ cX1_tell 3 (none) "StruckWords$Edict" 1) (x0 : Nat) (x1 : Int32) (x2 : Int32) (h : Hp) (q : Hp) (lx0 : lay x0 = some (.inl 0)) (hq : f_X1_tell x0 x1 x2 h = some q) : J κ 0 [(0, .inr (.inr x0)), (1, .inl x1), (2, .inl x2)] [] h (none, q) := by
  delta f_X1_tell at hq
  refine J_aload_n (pc := 0) X (j := 0) (i := 0) rfl rfl dX1_tell_0 ?_
  refine J_iload_n (pc := 1) X (j := 1) (i := 1) rfl rfl dX1_tell_1 ?_
  refine J_putI (pc := 2) X lx0 fp_1_7 dX1_tell_2 ?_
  refine J_ltH hq (fun h1 hq => ?_)
  refine J_aload_n (pc := 5) X (j := 0) (i := 0) rfl rfl dX1_tell_5 ?_
  refine J_iload_n (pc := 6) X (j := 2) (i := 2) rfl rfl dX1_tell_6 ?_
  refine J_putI (pc := 7) X lx0 fp_1_13 dX1_tell_7 ?_
  refine J_ltH hq (fun h2 hq => ?_)
  obtain rfl := Option.some.inj hq
  exact J_vret (pc := 10) X dX1_tell_10
theorem m_X1_tell (x0 : Nat) (x1 : Int32) (x2 : Int32) (h : Hp) (q : Hp) (lx0 : lay x0 = some (.inl 0)) (hq : f_X1_tell x0 x1 x2 h = some q) : ∀ l w, CT l w yX1_tell cX1_tell 3 (none) 1 [.inr (.inr x0), .inl x1, .inl x2] h (none, q) :=
  CT_of (L0 := [(0, .inr (.inr x0)), (1, .inl x1), (2, .inl x2)]) (by decide) rfl (Nat.le_of_ble_eq_true rfl) (fun κ X => tf_X1_tell X x0 x1 x2 h q lx0 hq)
theorem tf_X1_strikes {κ : Kx} (X : OK κ cX1_strikes 3 (some .boolean) "StruckWords$Edict" 1) (x0 : Nat) (x1 : Int32) (x2 : Int32) (h : Hp) (q : (Int32 × Hp)) (lx0 : lay x0 = some (.inl 0)) (hq : f_X1_strikes x0 x1 x2 h = some q) : J κ 0 [(0, .inr (.inr x0)), (1, .inl x1), (2, .inl x2)] [] h (some (.inl q.1), q.2) := by
  delta f_X1_strikes at hq
  refine J_iload_n (pc := 0) X (j := 1) (i := 1) rfl rfl dX1_strikes_0 ?_
  refine J_if_le (pc := 1) (tgt := 35) X dX1_strikes_1 rfl (fun c1 => ?_) (fun c1 => ?_)
  · have hq := ite_t hq c1
    refine J_iconst (pc := 35) X (v := 0) (by decide) dX1_strikes_35 ?_
    obtain rfl := Option.some.inj hq
    exact J_zret (pc := 36) X (by decide) dX1_strikes_36
  · have hq := ite_f hq c1
    refine J_aload_n (pc := 4) X (j := 0) (i := 0) rfl rfl dX1_strikes_4 ?_
    refine J_getI (pc := 5) X lx0 fl_1_7 dX1_strikes_5 ?_
    refine J_if_le (pc := 8) (tgt := 35) X dX1_strikes_8 rfl (fun c2 => ?_) (fun c2 => ?_)
    · have hq := ite_t hq c2
      refine J_iconst (pc := 35) X (v := 0) (by decide) dX1_strikes_35 ?_
      obtain rfl := Option.some.inj hq
      exact J_zret (pc := 36) X (by decide) dX1_strikes_36
    · have hq := ite_f hq c2
      refine J_iload_n (pc := 11) X (j := 2) (i := 2) rfl rfl dX1_strikes_11 ?_
      refine J_iload_n (pc := 12) X (j := 1) (i := 1) rfl rfl dX1_strikes_12 ?_
      refine J_icmp_lt (pc := 13) (tgt := 35) X dX1_strikes_13 rfl (fun c3 => ?_) (fun c3 => ?_)
      · have hq := ite_t hq c3
        refine J_iconst (pc := 35) X (v := 0) (by decide) dX1_strikes_35 ?_
        obtain rfl := Option.some.inj hq
        exact J_zret (pc := 36) X (by decide) dX1_strikes_36
      · have hq := ite_f hq c3
        refine J_iload_n (pc := 16) X (j := 2) (i := 2) rfl rfl dX1_strikes_16 ?_
        refine J_iload_n (pc := 17) X (j := 1) (i := 1) rfl rfl dX1_strikes_17 ?_
        refine J_isub (pc := 18) X dX1_strikes_18 ?_
        refine J_aload_n (pc := 19) X (j := 0) (i := 0) rfl rfl dX1_strikes_19 ?_
        refine J_getI (pc := 20) X lx0 fl_1_7 dX1_strikes_20 ?_
        obtain ⟨g4, hq⟩ := gd hq
        refine J_irem (pc := 23) X (nz_ne g4) dX1_strikes_23 ?_
        refine J_aload_n (pc := 24) X (j := 0) (i := 0) rfl rfl dX1_strikes_24 ?_
        refine J_getI (pc := 25) X lx0 fl_1_13 dX1_strikes_25 ?_
        refine J_icmp_ge (pc := 28) (tgt := 35) X dX1_strikes_28 rfl (fun c5 => ?_) (fun c5 => ?_)
        · have hq := ite_t hq c5
          refine J_iconst (pc := 35) X (v := 0) (by decide) dX1_strikes_35 ?_
          obtain rfl := Option.some.inj hq
          exact J_zret (pc := 36) X (by decide) dX1_strikes_36
        · have hq := ite_f hq c5
          refine J_iconst (pc := 31) X (v := 1) (by decide) dX1_strikes_31 ?_
          refine J_goto (pc := 32) X (tgt := 36) dX1_strikes_32 rfl ?_
          obtain rfl := Option.some.inj hq
          exact J_zret (pc := 36) X (by decide) dX1_strikes_36
theorem m_X1_strikes (x0 : Nat) (x1 : Int32) (x2 : Int32) (h : Hp) (q : (Int32 × Hp)) (lx0 : lay x0 = some (.inl 0)) (hq : f_X1_strikes x0 x1 x2 h = some q) : ∀ l w, CT l w yX1_strikes cX1_strikes 3 (some .boolean) 1 [.inr (.inr x0), .inl x1, .inl x2] h (some (.inl q.1), q.2) :=
  CT_of (L0 := [(0, .inr (.inr x0)), (1, .inl x1), (2, .inl x2)]) (by decide) rfl (Nat.le_of_ble_eq_true rfl) (fun κ X => tf_X1_strikes X x0 x1 x2 h q lx0 hq)
theorem tF_X1_leftOf_5 {κ : Kx} (X : OK κ cX1_leftOf 5 (some .int) "StruckWords$Edict" 2) (x0 : Nat) (x1 : Int32) (x2 : Int32) (k30 : Int32 → Hp → Option (Int32 × Hp)) (self : Int32 → Int32 → Hp → Option (Int32 × Hp)) (x3 : Int32) (x4 : Int32) (h : Hp) (q : (Int32 × Hp)) (lx0 : lay x0 = some (.inl 0)) (hk30 : ∀ (x3 : Int32) (h : Hp) (q : (Int32 × Hp)), k30 x3 h = some q → J κ 30 [(3, .inl x3)] [] h (some (.inl q.1), q.2)) (hself : ∀ (x3 : Int32) (x4 : Int32) (h : Hp) (q : (Int32 × Hp)), self x3 x4 h = some q → J κ 5 [(0, .inr (.inr x0)), (1, .inl x1), (2, .inl x2), (3, .inl x3), (4, .inl x4)] [] h (some (.inl q.1), q.2)) (hq : F_X1_leftOf_5 x0 x1 x2 k30 self x3 x4 h = some q) : J κ 5 [(0, .inr (.inr x0)), (1, .inl x1), (2, .inl x2), (3, .inl x3), (4, .inl x4)] [] h (some (.inl q.1), q.2) := by
  delta F_X1_leftOf_5 at hq
  refine J_iload (pc := 5) X (j := 4) rfl dX1_leftOf_5 ?_
  refine J_iload_n (pc := 7) X (j := 1) (i := 1) rfl rfl dX1_leftOf_7 ?_
  refine J_icmp_gt (pc := 8) (tgt := 30) X dX1_leftOf_8 rfl (fun c1 => ?_) (fun c1 => ?_)
  · have hq := ite_t hq c1
    refine J_sub [3] rfl ?_
    exact hk30 _ _ _ hq
  · have hq := ite_f hq c1
    refine J_aload_n (pc := 11) X (j := 0) (i := 0) rfl rfl dX1_leftOf_11 ?_
    refine J_iload_n (pc := 12) X (j := 2) (i := 2) rfl rfl dX1_leftOf_12 ?_
    refine J_iload (pc := 13) X (j := 4) rfl dX1_leftOf_13 ?_
    obtain ⟨v3, h2, hc, hq⟩ := bnd_e hq
    refine J_callV (pc := 15) (as := [.inl x2, .inl x4]) (st := []) (st2 := [.inl v3]) (r1 := (some (.inl v3), h2)) (h2 := h2) (ky := 1) X dX1_leftOf_15 ca_X1_strikes ci_X1_strikes cs_X1_strikes ml_1_16 (by decide) lx0 rfl rfl (m_X1_strikes _ _ _ _ _ lx0 hc) rfl rfl (Nat.le_of_ble_eq_true rfl) rfl rfl ?_
    refine J_if_ne (pc := 18) (tgt := 24) X dX1_leftOf_18 rfl (fun c4 => ?_) (fun c4 => ?_)
    · have hq := ite_f hq c4
      refine J_iinc (pc := 24) X (j := 4) (v := 1) (L' := [(4, .inl (x4 + 1)), (0, .inr (.inr x0)), (1, .inl x1), (2, .inl x2), (3, .inl x3)]) rfl (by decide) (by decide) rfl dX1_leftOf_24 ?_
      refine J_goto (pc := 27) X (tgt := 5) dX1_leftOf_27 rfl ?_
      refine J_sub [1, 2, 3, 4, 0] rfl ?_
      exact hself _ _ _ _ hq
    · have hq := ite_t hq c4
      refine J_iinc (pc := 21) X (j := 3) (v := 1) (L' := [(3, .inl (x3 + 1)), (0, .inr (.inr x0)), (1, .inl x1), (2, .inl x2), (4, .inl x4)]) rfl (by decide) (by decide) rfl dX1_leftOf_21 ?_
      refine J_iinc (pc := 24) X (j := 4) (v := 1) (L' := [(4, .inl (x4 + 1)), (3, .inl (x3 + 1)), (0, .inr (.inr x0)), (1, .inl x1), (2, .inl x2)]) rfl (by decide) (by decide) rfl dX1_leftOf_24 ?_
      refine J_goto (pc := 27) X (tgt := 5) dX1_leftOf_27 rfl ?_
      refine J_sub [2, 3, 4, 1, 0] rfl ?_
      exact hself _ _ _ _ hq
theorem tL_X1_leftOf_5 {κ : Kx} (X : OK κ cX1_leftOf 5 (some .int) "StruckWords$Edict" 2) (x0 : Nat) (x1 : Int32) (x2 : Int32) (k30 : Int32 → Hp → Option (Int32 × Hp)) (N : Nat) (x3 : Int32) (x4 : Int32) (h : Hp) (q : (Int32 × Hp)) (lx0 : lay x0 = some (.inl 0)) (hk30 : ∀ (x3 : Int32) (h : Hp) (q : (Int32 × Hp)), k30 x3 h = some q → J κ 30 [(3, .inl x3)] [] h (some (.inl q.1), q.2)) (hq : itr3 (F_X1_leftOf_5 x0 x1 x2 k30) N x3 x4 h = some q) : J κ 5 [(0, .inr (.inr x0)), (1, .inl x1), (2, .inl x2), (3, .inl x3), (4, .inl x4)] [] h (some (.inl q.1), q.2) :=
  itr3_ind (fun self hs x3 x4 h q hq => tF_X1_leftOf_5 X x0 x1 x2 k30 self x3 x4 h q lx0 hk30 hs hq) N x3 x4 h q hq
theorem tf_X1_leftOf {κ : Kx} (X : OK κ cX1_leftOf 5 (some .int) "StruckWords$Edict" 2) (x0 : Nat) (x1 : Int32) (x2 : Int32) (h : Hp) (q : (Int32 × Hp)) (lx0 : lay x0 = some (.inl 0)) (hq : f_X1_leftOf x0 x1 x2 h = some q) : J κ 0 [(0, .inr (.inr x0)), (1, .inl x1), (2, .inl x2)] [] h (some (.inl q.1), q.2) := by
  delta f_X1_leftOf at hq
  refine J_iconst (pc := 0) X (v := 0) (by decide) dX1_leftOf_0 ?_
  refine J_istore_n (pc := 1) X (L' := [(3, .inl 0), (0, .inr (.inr x0)), (1, .inl x1), (2, .inl x2)]) (i := 3) rfl (by decide) rfl dX1_leftOf_1 ?_
  refine J_iconst (pc := 2) X (v := 1) (by decide) dX1_leftOf_2 ?_
  refine J_istore (pc := 3) X (L' := [(4, .inl 1), (3, .inl 0), (0, .inr (.inr x0)), (1, .inl x1), (2, .inl x2)]) (by decide) rfl dX1_leftOf_3 ?_
  refine J_sub [2, 3, 4, 1, 0] rfl ?_
  refine tL_X1_leftOf_5 X _ _ _ _ N0 _ _ _ _ lx0 ?_ hq
  · intro v6 h5 q hq
    refine J_iload_n (pc := 30) X (j := 0) (i := 3) rfl rfl dX1_leftOf_30 ?_
    obtain rfl := Option.some.inj hq
    exact J_iret (pc := 31) X dX1_leftOf_31
theorem m_X1_leftOf (x0 : Nat) (x1 : Int32) (x2 : Int32) (h : Hp) (q : (Int32 × Hp)) (lx0 : lay x0 = some (.inl 0)) (hq : f_X1_leftOf x0 x1 x2 h = some q) : ∀ l w, CT l w yX1_leftOf cX1_leftOf 5 (some .int) 2 [.inr (.inr x0), .inl x1, .inl x2] h (some (.inl q.1), q.2) :=
  CT_of (L0 := [(0, .inr (.inr x0)), (1, .inl x1), (2, .inl x2)]) (by decide) rfl (Nat.le_of_ble_eq_true rfl) (fun κ X => tf_X1_leftOf X x0 x1 x2 h q lx0 hq)
theorem tf_X2_want {κ : Kx} (X : OK κ cX2_want 3 (none) "StruckWords$Finder" 1) (x1 : Int32) (x2 : Int32) (h : Hp) (q : Hp) (hq : f_X2_want x1 x2 h = some q) : J κ 0 [(0, .inr (.inr 122)), (1, .inl x1), (2, .inl x2)] [] h (none, q) := by
  delta f_X2_want at hq
  refine J_iload_n (pc := 0) X (j := 1) (i := 1) rfl rfl dX2_want_0 ?_
  refine J_if_lt (pc := 1) (tgt := 20) X dX2_want_1 rfl (fun c1 => ?_) (fun c1 => ?_)
  · have hq := ite_t hq c1
    obtain rfl := Option.some.inj hq
    exact J_vret (pc := 20) X dX2_want_20
  · have hq := ite_f hq c1
    refine J_iload_n (pc := 4) X (j := 1) (i := 1) rfl rfl dX2_want_4 ?_
    refine J_bipush (pc := 5) X (v := 6) (by decide) dX2_want_5 ?_
    refine J_icmp_ge (pc := 7) (tgt := 20) X dX2_want_7 rfl (fun c2 => ?_) (fun c2 => ?_)
    · have hq := ite_t hq c2
      obtain rfl := Option.some.inj hq
      exact J_vret (pc := 20) X dX2_want_20
    · have hq := ite_f hq c2
      refine J_aload_n (pc := 10) X (j := 0) (i := 0) rfl rfl dX2_want_10 ?_
      refine J_getF (pc := 11) X (b := 123) ly122 fl_2_12 rfl dX2_want_11 ?_
      refine J_getF (pc := 14) X (b := 127) ly123 fl_2_34 rfl dX2_want_14 ?_
      refine J_iload_n (pc := 17) X (j := 1) (i := 1) rfl rfl dX2_want_17 ?_
      refine J_iload_n (pc := 18) X (j := 2) (i := 2) rfl rfl dX2_want_18 ?_
      obtain ⟨g3, hq⟩ := gd hq
      refine J_iastore (pc := 19) X ly127 g3 dX2_want_19 ?_
      refine J_ltH hq (fun h4 hq => ?_)
      obtain rfl := Option.some.inj hq
      exact J_vret (pc := 20) X dX2_want_20
theorem m_X2_want (x1 : Int32) (x2 : Int32) (h : Hp) (q : Hp) (hq : f_X2_want x1 x2 h = some q) : ∀ l w, CT l w yX2_want cX2_want 3 (none) 1 [.inr (.inr 122), .inl x1, .inl x2] h (none, q) :=
  CT_of (L0 := [(0, .inr (.inr 122)), (1, .inl x1), (2, .inl x2)]) (by decide) rfl (Nat.le_of_ble_eq_true rfl) (fun κ X => tf_X2_want X x1 x2 h q  hq)
theorem tF_J7_fill_53178_5 {κ : Kx} (X : OK κ cJ7_fill_53178 4 (none) "java/util/Arrays" 1) (x0 : Nat) (x1 : Int32) (x3 : Int32) (k20 : Hp → Option Hp) (self : Int32 → Hp → Option Hp) (x2 : Int32) (h : Hp) (q : Hp) (lx0 : lay x0 = some (.inr (0, (aln x0)))) (hk20 : ∀ (h : Hp) (q : Hp), k20 h = some q → J κ 20 [] [] h (none, q)) (hself : ∀ (x2 : Int32) (h : Hp) (q : Hp), self x2 h = some q → J κ 5 [(0, .inr (.inr x0)), (1, .inl x1), (2, .inl x2), (3, .inl x3)] [] h (none, q)) (hq : F_J7_fill_53178_5 x0 x1 x3 k20 self x2 h = some q) : J κ 5 [(0, .inr (.inr x0)), (1, .inl x1), (2, .inl x2), (3, .inl x3)] [] h (none, q) := by
  delta F_J7_fill_53178_5 at hq
  refine J_iload_n (pc := 5) X (j := 2) (i := 2) rfl rfl dJ7_fill_53178_5 ?_
  refine J_iload_n (pc := 6) X (j := 3) (i := 3) rfl rfl dJ7_fill_53178_6 ?_
  refine J_icmp_ge (pc := 7) (tgt := 20) X dJ7_fill_53178_7 rfl (fun c2 => ?_) (fun c2 => ?_)
  · have hq := ite_t hq c2
    refine J_sub [] rfl ?_
    exact hk20 _ _ hq
  · have hq := ite_f hq c2
    refine J_aload_n (pc := 10) X (j := 0) (i := 0) rfl rfl dJ7_fill_53178_10 ?_
    refine J_iload_n (pc := 11) X (j := 2) (i := 2) rfl rfl dJ7_fill_53178_11 ?_
    refine J_iload_n (pc := 12) X (j := 1) (i := 1) rfl rfl dJ7_fill_53178_12 ?_
    obtain ⟨g3, hq⟩ := gd hq
    refine J_iastore (pc := 13) X lx0 g3 dJ7_fill_53178_13 ?_
    refine J_ltH hq (fun h4 hq => ?_)
    refine J_iinc (pc := 14) X (j := 2) (v := 1) (L' := [(2, .inl (x2 + 1)), (0, .inr (.inr x0)), (1, .inl x1), (3, .inl x3)]) rfl (by decide) (by decide) rfl dJ7_fill_53178_14 ?_
    refine J_goto (pc := 17) X (tgt := 5) dJ7_fill_53178_17 rfl ?_
    refine J_sub [1, 2, 0, 3] rfl ?_
    exact hself _ _ _ hq
theorem tL_J7_fill_53178_5 {κ : Kx} (X : OK κ cJ7_fill_53178 4 (none) "java/util/Arrays" 1) (x0 : Nat) (x1 : Int32) (x3 : Int32) (k20 : Hp → Option Hp) (N : Nat) (x2 : Int32) (h : Hp) (q : Hp) (lx0 : lay x0 = some (.inr (0, (aln x0)))) (hk20 : ∀ (h : Hp) (q : Hp), k20 h = some q → J κ 20 [] [] h (none, q)) (hq : itr2 (F_J7_fill_53178_5 x0 x1 x3 k20) N x2 h = some q) : J κ 5 [(0, .inr (.inr x0)), (1, .inl x1), (2, .inl x2), (3, .inl x3)] [] h (none, q) :=
  itr2_ind (fun self hs x2 h q hq => tF_J7_fill_53178_5 X x0 x1 x3 k20 self x2 h q lx0 hk20 hs hq) N x2 h q hq
theorem tf_J7_fill_53178 {κ : Kx} (X : OK κ cJ7_fill_53178 4 (none) "java/util/Arrays" 1) (x0 : Nat) (x1 : Int32) (h : Hp) (q : Hp) (lx0 : lay x0 = some (.inr (0, (aln x0)))) (hq : f_J7_fill_53178 x0 x1 h = some q) : J κ 0 [(0, .inr (.inr x0)), (1, .inl x1)] [] h (none, q) := by
  delta f_J7_fill_53178 at hq
  refine J_iconst (pc := 0) X (v := 0) (by decide) dJ7_fill_53178_0 ?_
  refine J_istore_n (pc := 1) X (L' := [(2, .inl 0), (0, .inr (.inr x0)), (1, .inl x1)]) (i := 2) rfl (by decide) rfl dJ7_fill_53178_1 ?_
  refine J_aload_n (pc := 2) X (j := 1) (i := 0) rfl rfl dJ7_fill_53178_2 ?_
  refine J_alen (pc := 3) X (v := Int32.ofNat (aln x0)) lx0 (by decide) rfl dJ7_fill_53178_3 ?_
  refine J_ltI hq (fun v1 hq => ?_)
  refine J_istore_n (pc := 4) X (L' := [(3, .inl v1), (2, .inl 0), (0, .inr (.inr x0)), (1, .inl x1)]) (i := 3) rfl (by decide) rfl dJ7_fill_53178_4 ?_
  refine J_sub [2, 3, 1, 0] rfl ?_
  refine tL_J7_fill_53178_5 X _ _ _ _ N0 _ _ _ lx0 ?_ hq
  · intro h5 q hq
    obtain rfl := Option.some.inj hq
    exact J_vret (pc := 20) X dJ7_fill_53178_20
theorem m_J7_fill_53178 (x0 : Nat) (x1 : Int32) (h : Hp) (q : Hp) (lx0 : lay x0 = some (.inr (0, (aln x0)))) (hq : f_J7_fill_53178 x0 x1 h = some q) : ∀ l w, CT l w yJ7_fill_53178 cJ7_fill_53178 4 (none) 1 [.inr (.inr x0), .inl x1] h (none, q) :=
  CT_of (L0 := [(0, .inr (.inr x0)), (1, .inl x1)]) (by decide) rfl (Nat.le_of_ble_eq_true rfl) (fun κ X => tf_J7_fill_53178 X x0 x1 h q lx0 hq)
theorem tf_X2_wantByAll {κ : Kx} (X : OK κ cX2_wantByAll 3 (none) "StruckWords$Finder" 2) (x1 : Int32) (x2 : Int32) (h : Hp) (q : Hp) (hq : f_X2_wantByAll x1 x2 h = some q) : J κ 0 [(0, .inr (.inr 122)), (1, .inl x1), (2, .inl x2)] [] h (none, q) := by
  delta f_X2_wantByAll at hq
  refine J_aload_n (pc := 0) X (j := 0) (i := 0) rfl rfl dX2_wantByAll_0 ?_
  refine J_getF (pc := 1) X (b := 123) ly122 fl_2_12 rfl dX2_wantByAll_1 ?_
  refine J_getF (pc := 4) X (b := 127) ly123 fl_2_34 rfl dX2_wantByAll_4 ?_
  refine J_iload_n (pc := 7) X (j := 2) (i := 2) rfl rfl dX2_wantByAll_7 ?_
  obtain ⟨h1, hc, hq⟩ := bnv_e hq
  refine J_callS (pc := 8) (as := [.inr (.inr 127), .inl x2]) (st := []) (st2 := []) (r1 := (none, h1)) (h2 := h1) (ky := 1) X dX2_wantByAll_8 ca_J7_fill_53178 cz_J7_fill_53178 ml_2_38 (by decide) (m_J7_fill_53178 _ _ _ _ (aln_of ly127) hc) rfl rfl (Nat.le_of_ble_eq_true rfl) rfl rfl ?_
  refine J_aload_n (pc := 11) X (j := 0) (i := 0) rfl rfl dX2_wantByAll_11 ?_
  refine J_getF (pc := 12) X (b := 123) ly122 fl_2_12 rfl dX2_wantByAll_12 ?_
  refine J_getF (pc := 15) X (b := 127) ly123 fl_2_34 rfl dX2_wantByAll_15 ?_
  refine J_iconst (pc := 18) X (v := 0) (by decide) dX2_wantByAll_18 ?_
  refine J_iload_n (pc := 19) X (j := 1) (i := 1) rfl rfl dX2_wantByAll_19 ?_
  refine J_iastore (pc := 20) X ly127 (by decide) dX2_wantByAll_20 ?_
  refine J_ltH hq (fun h2 hq => ?_)
  obtain rfl := Option.some.inj hq
  exact J_vret (pc := 21) X dX2_wantByAll_21
theorem m_X2_wantByAll (x1 : Int32) (x2 : Int32) (h : Hp) (q : Hp) (hq : f_X2_wantByAll x1 x2 h = some q) : ∀ l w, CT l w yX2_wantByAll cX2_wantByAll 3 (none) 2 [.inr (.inr 122), .inl x1, .inl x2] h (none, q) :=
  CT_of (L0 := [(0, .inr (.inr 122)), (1, .inl x1), (2, .inl x2)]) (by decide) rfl (Nat.le_of_ble_eq_true rfl) (fun κ X => tf_X2_wantByAll X x1 x2 h q  hq)
theorem tf_X2_wantBeats {κ : Kx} (X : OK κ cX2_wantBeats 2 (none) "StruckWords$Finder" 1) (x1 : Int32) (h : Hp) (q : Hp) (hq : f_X2_wantBeats x1 h = some q) : J κ 0 [(0, .inr (.inr 122)), (1, .inl x1)] [] h (none, q) := by
  delta f_X2_wantBeats at hq
  refine J_aload_n (pc := 0) X (j := 0) (i := 0) rfl rfl dX2_wantBeats_0 ?_
  refine J_getF (pc := 1) X (b := 123) ly122 fl_2_12 rfl dX2_wantBeats_1 ?_
  refine J_iload_n (pc := 4) X (j := 1) (i := 1) rfl rfl dX2_wantBeats_4 ?_
  refine J_putI (pc := 5) X ly123 fp_2_44 dX2_wantBeats_5 ?_
  refine J_ltH hq (fun h1 hq => ?_)
  obtain rfl := Option.some.inj hq
  exact J_vret (pc := 8) X dX2_wantBeats_8
theorem m_X2_wantBeats (x1 : Int32) (h : Hp) (q : Hp) (hq : f_X2_wantBeats x1 h = some q) : ∀ l w, CT l w yX2_wantBeats cX2_wantBeats 2 (none) 1 [.inr (.inr 122), .inl x1] h (none, q) :=
  CT_of (L0 := [(0, .inr (.inr 122)), (1, .inl x1)]) (by decide) rfl (Nat.le_of_ble_eq_true rfl) (fun κ X => tf_X2_wantBeats X x1 h q  hq)
theorem tf_X2_foundRow {κ : Kx} (X : OK κ cX2_foundRow 1 (some (.object "StruckWords$Row")) "StruckWords$Finder" 1) (h : Hp) (q : (Nat × Hp)) (hq : f_X2_foundRow h = some q) : J κ 0 [(0, .inr (.inr 122))] [] h (some (.inr (.inr q.1)), q.2) := by
  delta f_X2_foundRow at hq
  refine J_aload_n (pc := 0) X (j := 0) (i := 0) rfl rfl dX2_foundRow_0 ?_
  refine J_getF (pc := 1) X (b := 123) ly122 fl_2_12 rfl dX2_foundRow_1 ?_
  refine J_getF (pc := 4) X (b := 128) ly123 fl_2_48 rfl dX2_foundRow_4 ?_
  obtain rfl := Option.some.inj hq
  exact J_aret (pc := 7) X (Or.inl ⟨_, rfl⟩) dX2_foundRow_7
theorem m_X2_foundRow (h : Hp) (q : (Nat × Hp)) (hq : f_X2_foundRow  h = some q) : ∀ l w, CT l w yX2_foundRow cX2_foundRow 1 (some (.object "StruckWords$Row")) 1 [.inr (.inr 122)] h (some (.inr (.inr q.1)), q.2) :=
  CT_of (L0 := [(0, .inr (.inr 122))]) (by decide) rfl (Nat.le_of_ble_eq_true rfl) (fun κ X => tf_X2_foundRow X  h q  hq)
theorem tF_X11_begin_19 {κ : Kx} (X : OK κ cX11_begin 5 (none) "StruckWords$Walk" 2) (x2 : Nat) (k49 : Hp → Option Hp) (self : Int32 → Hp → Option Hp) (x3 : Int32) (h : Hp) (q : Hp) (lx2 : lay x2 = some (.inl 0)) (hk49 : ∀ (h : Hp) (q : Hp), k49 h = some q → J κ 49 [(0, .inr (.inr 123)), (2, .inr (.inr x2))] [] h (none, q)) (hself : ∀ (x3 : Int32) (h : Hp) (q : Hp), self x3 h = some q → J κ 19 [(0, .inr (.inr 123)), (2, .inr (.inr x2)), (3, .inl x3)] [] h (none, q)) (hq : F_X11_begin_19 x2 k49 self x3 h = some q) : J κ 19 [(0, .inr (.inr 123)), (2, .inr (.inr x2)), (3, .inl x3)] [] h (none, q) := by
  delta F_X11_begin_19 at hq
  refine J_iload_n (pc := 19) X (j := 2) (i := 3) rfl rfl dX11_begin_19 ?_
  refine J_aload_n (pc := 20) X (j := 0) (i := 0) rfl rfl dX11_begin_20 ?_
  refine J_getI (pc := 21) X ly123 fl_11_56 dX11_begin_21 ?_
  refine J_icmp_gt (pc := 24) (tgt := 49) X dX11_begin_24 rfl (fun c3 => ?_) (fun c3 => ?_)
  · have hq := ite_t hq c3
    refine J_sub [0, 1] rfl ?_
    exact hk49 _ _ hq
  · have hq := ite_f hq c3
    refine J_aload_n (pc := 27) X (j := 0) (i := 0) rfl rfl dX11_begin_27 ?_
    refine J_getF (pc := 28) X (b := 124) ly123 fl_11_9 rfl dX11_begin_28 ?_
    refine J_iload_n (pc := 31) X (j := 2) (i := 3) rfl rfl dX11_begin_31 ?_
    refine J_ldc2 (pc := 32) X cl_11_61 dX11_begin_32 ?_
    obtain ⟨g4, hq⟩ := gd hq
    refine J_lastore (pc := 35) X ly124 g4 dX11_begin_35 ?_
    refine J_ltH hq (fun h5 hq => ?_)
    refine J_aload_n (pc := 36) X (j := 0) (i := 0) rfl rfl dX11_begin_36 ?_
    refine J_getF (pc := 37) X (b := 125) ly123 fl_11_15 rfl dX11_begin_37 ?_
    refine J_iload_n (pc := 40) X (j := 2) (i := 3) rfl rfl dX11_begin_40 ?_
    refine J_iconst (pc := 41) X (v := 0) (by decide) dX11_begin_41 ?_
    obtain ⟨g6, hq⟩ := gd hq
    refine J_iastore (pc := 42) X ly125 g6 dX11_begin_42 ?_
    refine J_ltH hq (fun h7 hq => ?_)
    refine J_iinc (pc := 43) X (j := 2) (v := 1) (L' := [(3, .inl (x3 + 1)), (0, .inr (.inr 123)), (2, .inr (.inr x2))]) rfl (by decide) (by decide) rfl dX11_begin_43 ?_
    refine J_goto (pc := 46) X (tgt := 19) dX11_begin_46 rfl ?_
    refine J_sub [1, 2, 0] rfl ?_
    exact hself _ _ _ hq
theorem tL_X11_begin_19 {κ : Kx} (X : OK κ cX11_begin 5 (none) "StruckWords$Walk" 2) (x2 : Nat) (k49 : Hp → Option Hp) (N : Nat) (x3 : Int32) (h : Hp) (q : Hp) (lx2 : lay x2 = some (.inl 0)) (hk49 : ∀ (h : Hp) (q : Hp), k49 h = some q → J κ 49 [(0, .inr (.inr 123)), (2, .inr (.inr x2))] [] h (none, q)) (hq : itr2 (F_X11_begin_19 x2 k49) N x3 h = some q) : J κ 19 [(0, .inr (.inr 123)), (2, .inr (.inr x2)), (3, .inl x3)] [] h (none, q) :=
  itr2_ind (fun self hs x3 h q hq => tF_X11_begin_19 X x2 k49 self x3 h q lx2 hk49 hs hq) N x3 h q hq
theorem tB_X11_begin_103 {κ : Kx} (X : OK κ cX11_begin 5 (none) "StruckWords$Walk" 2) (x2 : Nat) (x3 : Int32) (k111 : Hp → Option Hp) (self : Int32 → Hp → Option Hp) (x4 : Int32) (t0 : Int32) (t1 : Int32) (t2 : Int32) (h : Hp) (q : Hp) (lx2 : lay x2 = some (.inl 0)) (hk111 : ∀ (h : Hp) (q : Hp), k111 h = some q → J κ 111 [(0, .inr (.inr 123)), (2, .inr (.inr x2)), (3, .inl x3)] [] h (none, q)) (hself : ∀ (x4 : Int32) (h : Hp) (q : Hp), self x4 h = some q → J κ 67 [(0, .inr (.inr 123)), (2, .inr (.inr x2)), (3, .inl x3), (4, .inl x4)] [] h (none, q)) (hq : B_X11_begin_103 x2 x3 k111 self x4 t0 t1 t2 h = some q) : J κ 103 [(0, .inr (.inr 123)), (2, .inr (.inr x2)), (3, .inl x3), (4, .inl x4)] [.inl t0, .inl t1, .inl t2, .inr (.inr 126)] h (none, q) := by
  delta B_X11_begin_103 at hq
  refine J_ior (pc := 103) X dX11_begin_103 ?_
  obtain ⟨g17, hq⟩ := gd hq
  refine J_iastore (pc := 104) X ly126 g17 dX11_begin_104 ?_
  refine J_ltH hq (fun h18 hq => ?_)
  refine J_iinc (pc := 105) X (j := 3) (v := 1) (L' := [(4, .inl (x4 + 1)), (0, .inr (.inr 123)), (2, .inr (.inr x2)), (3, .inl x3)]) rfl (by decide) (by decide) rfl dX11_begin_105 ?_
  refine J_goto (pc := 108) X (tgt := 67) dX11_begin_108 rfl ?_
  refine J_sub [1, 2, 3, 0] rfl ?_
  exact hself _ _ _ hq
theorem tF_X11_begin_67 {κ : Kx} (X : OK κ cX11_begin 5 (none) "StruckWords$Walk" 2) (x2 : Nat) (x3 : Int32) (k111 : Hp → Option Hp) (self : Int32 → Hp → Option Hp) (x4 : Int32) (h : Hp) (q : Hp) (lx2 : lay x2 = some (.inl 0)) (hk111 : ∀ (h : Hp) (q : Hp), k111 h = some q → J κ 111 [(0, .inr (.inr 123)), (2, .inr (.inr x2)), (3, .inl x3)] [] h (none, q)) (hself : ∀ (x4 : Int32) (h : Hp) (q : Hp), self x4 h = some q → J κ 67 [(0, .inr (.inr 123)), (2, .inr (.inr x2)), (3, .inl x3), (4, .inl x4)] [] h (none, q)) (hq : F_X11_begin_67 x2 x3 k111 self x4 h = some q) : J κ 67 [(0, .inr (.inr 123)), (2, .inr (.inr x2)), (3, .inl x3), (4, .inl x4)] [] h (none, q) := by
  delta F_X11_begin_67 at hq
  refine J_iload (pc := 67) X (j := 3) rfl dX11_begin_67 ?_
  refine J_aload_n (pc := 69) X (j := 0) (i := 0) rfl rfl dX11_begin_69 ?_
  refine J_getI (pc := 70) X ly123 fl_11_56 dX11_begin_70 ?_
  refine J_icmp_gt (pc := 73) (tgt := 111) X dX11_begin_73 rfl (fun c12 => ?_) (fun c12 => ?_)
  · have hq := ite_t hq c12
    refine J_sub [0, 1, 2] rfl ?_
    exact hk111 _ _ hq
  · have hq := ite_f hq c12
    refine J_aload_n (pc := 76) X (j := 0) (i := 0) rfl rfl dX11_begin_76 ?_
    refine J_getF (pc := 77) X (b := 126) ly123 fl_11_19 rfl dX11_begin_77 ?_
    refine J_iload_n (pc := 80) X (j := 2) (i := 3) rfl rfl dX11_begin_80 ?_
    refine J_dup2 (pc := 81) X rfl rfl dX11_begin_81 ?_
    obtain ⟨g13, hq⟩ := gd hq
    refine J_iaload (pc := 82) X ly126 g13 dX11_begin_82 ?_
    refine J_aload_n (pc := 83) X (j := 1) (i := 2) rfl rfl dX11_begin_83 ?_
    refine J_iload (pc := 84) X (j := 3) rfl dX11_begin_84 ?_
    refine J_iload_n (pc := 86) X (j := 2) (i := 3) rfl rfl dX11_begin_86 ?_
    refine J_iconst (pc := 87) X (v := 1) (by decide) dX11_begin_87 ?_
    refine J_iadd (pc := 88) X dX11_begin_88 ?_
    obtain ⟨v15, h14, hc, hq⟩ := bnd_e hq
    refine J_callV (pc := 89) (as := [.inl x4, .inl (x3 + 1)]) (st := [.inl (h.1 126 (x3.toNatClampNeg)), .inl x3, .inr (.inr 126)]) (st2 := [.inl v15, .inl (h.1 126 (x3.toNatClampNeg)), .inl x3, .inr (.inr 126)]) (r1 := (some (.inl v15), h14)) (h2 := h14) (ky := 1) X dX11_begin_89 ca_X1_strikes ci_X1_strikes cs_X1_strikes ml_11_63 (by decide) lx2 rfl rfl (m_X1_strikes _ _ _ _ _ lx2 hc) rfl rfl (Nat.le_of_ble_eq_true rfl) rfl rfl ?_
    refine J_if_eq (pc := 92) (tgt := 102) X dX11_begin_92 rfl (fun c16 => ?_) (fun c16 => ?_)
    · have hq := ite_t hq c16
      refine J_iconst (pc := 102) X (v := 0) (by decide) dX11_begin_102 ?_
      exact tB_X11_begin_103 X _ _ _ _ _ _ _ _ _ _ lx2 hk111 hself hq
    · have hq := ite_f hq c16
      refine J_iconst (pc := 95) X (v := 1) (by decide) dX11_begin_95 ?_
      refine J_iload (pc := 96) X (j := 3) rfl dX11_begin_96 ?_
      refine J_ishl (pc := 98) X dX11_begin_98 ?_
      refine J_goto (pc := 99) X (tgt := 103) dX11_begin_99 rfl ?_
      exact tB_X11_begin_103 X _ _ _ _ _ _ _ _ _ _ lx2 hk111 hself hq
theorem tL_X11_begin_67 {κ : Kx} (X : OK κ cX11_begin 5 (none) "StruckWords$Walk" 2) (x2 : Nat) (x3 : Int32) (k111 : Hp → Option Hp) (N : Nat) (x4 : Int32) (h : Hp) (q : Hp) (lx2 : lay x2 = some (.inl 0)) (hk111 : ∀ (h : Hp) (q : Hp), k111 h = some q → J κ 111 [(0, .inr (.inr 123)), (2, .inr (.inr x2)), (3, .inl x3)] [] h (none, q)) (hq : itr2 (F_X11_begin_67 x2 x3 k111) N x4 h = some q) : J κ 67 [(0, .inr (.inr 123)), (2, .inr (.inr x2)), (3, .inl x3), (4, .inl x4)] [] h (none, q) :=
  itr2_ind (fun self hs x4 h q hq => tF_X11_begin_67 X x2 x3 k111 self x4 h q lx2 hk111 hs hq) N x4 h q hq
theorem tF_X11_begin_51 {κ : Kx} (X : OK κ cX11_begin 5 (none) "StruckWords$Walk" 2) (x2 : Nat) (k117 : Hp → Option Hp) (self : Int32 → Hp → Option Hp) (x3 : Int32) (h : Hp) (q : Hp) (lx2 : lay x2 = some (.inl 0)) (hk117 : ∀ (h : Hp) (q : Hp), k117 h = some q → J κ 117 [] [] h (none, q)) (hself : ∀ (x3 : Int32) (h : Hp) (q : Hp), self x3 h = some q → J κ 51 [(0, .inr (.inr 123)), (2, .inr (.inr x2)), (3, .inl x3)] [] h (none, q)) (hq : F_X11_begin_51 x2 k117 self x3 h = some q) : J κ 51 [(0, .inr (.inr 123)), (2, .inr (.inr x2)), (3, .inl x3)] [] h (none, q) := by
  delta F_X11_begin_51 at hq
  refine J_iload_n (pc := 51) X (j := 2) (i := 3) rfl rfl dX11_begin_51 ?_
  refine J_bipush (pc := 52) X (v := 13) (by decide) dX11_begin_52 ?_
  refine J_icmp_ge (pc := 54) (tgt := 117) X dX11_begin_54 rfl (fun c9 => ?_) (fun c9 => ?_)
  · have hq := ite_t hq c9
    refine J_sub [] rfl ?_
    exact hk117 _ _ hq
  · have hq := ite_f hq c9
    refine J_aload_n (pc := 57) X (j := 0) (i := 0) rfl rfl dX11_begin_57 ?_
    refine J_getF (pc := 58) X (b := 126) ly123 fl_11_19 rfl dX11_begin_58 ?_
    refine J_iload_n (pc := 61) X (j := 2) (i := 3) rfl rfl dX11_begin_61 ?_
    refine J_iconst (pc := 62) X (v := 0) (by decide) dX11_begin_62 ?_
    obtain ⟨g10, hq⟩ := gd hq
    refine J_iastore (pc := 63) X ly126 g10 dX11_begin_63 ?_
    refine J_ltH hq (fun h11 hq => ?_)
    refine J_iconst (pc := 64) X (v := 1) (by decide) dX11_begin_64 ?_
    refine J_istore (pc := 65) X (L' := [(4, .inl 1), (0, .inr (.inr 123)), (2, .inr (.inr x2)), (3, .inl x3)]) (by decide) rfl dX11_begin_65 ?_
    refine J_sub [1, 2, 3, 0] rfl ?_
    refine tL_X11_begin_67 X _ _ _ N0 _ _ _ lx2 ?_ hq
    · intro h19 q hq
      refine J_iinc (pc := 111) X (j := 2) (v := 1) (L' := [(3, .inl (x3 + 1)), (0, .inr (.inr 123)), (2, .inr (.inr x2))]) rfl (by decide) (by decide) rfl dX11_begin_111 ?_
      refine J_goto (pc := 114) X (tgt := 51) dX11_begin_114 rfl ?_
      refine J_sub [1, 2, 0] rfl ?_
      exact hself _ _ _ hq
theorem tL_X11_begin_51 {κ : Kx} (X : OK κ cX11_begin 5 (none) "StruckWords$Walk" 2) (x2 : Nat) (k117 : Hp → Option Hp) (N : Nat) (x3 : Int32) (h : Hp) (q : Hp) (lx2 : lay x2 = some (.inl 0)) (hk117 : ∀ (h : Hp) (q : Hp), k117 h = some q → J κ 117 [] [] h (none, q)) (hq : itr2 (F_X11_begin_51 x2 k117) N x3 h = some q) : J κ 51 [(0, .inr (.inr 123)), (2, .inr (.inr x2)), (3, .inl x3)] [] h (none, q) :=
  itr2_ind (fun self hs x3 h q hq => tF_X11_begin_51 X x2 k117 self x3 h q lx2 hk117 hs hq) N x3 h q hq
theorem tf_X11_begin {κ : Kx} (X : OK κ cX11_begin 5 (none) "StruckWords$Walk" 2) (x1 : Nat) (x2 : Nat) (h : Hp) (q : Hp) (lx1 : lay x1 = some (.inl 8)) (lx2 : lay x2 = some (.inl 0)) (hq : f_X11_begin x1 x2 h = some q) : J κ 0 [(0, .inr (.inr 123)), (1, .inr (.inr x1)), (2, .inr (.inr x2))] [] h (none, q) := by
  delta f_X11_begin at hq
  refine J_aload_n (pc := 0) X (j := 0) (i := 0) rfl rfl dX11_begin_0 ?_
  refine J_aload_n (pc := 1) X (j := 1) (i := 1) rfl rfl dX11_begin_1 ?_
  refine J_putR (pc := 2) X ly123 fp_11_41 dX11_begin_2 ?_
  refine J_ltH hq (fun h1 hq => ?_)
  refine J_aload_n (pc := 5) X (j := 0) (i := 0) rfl rfl dX11_begin_5 ?_
  refine J_aload_n (pc := 6) X (j := 2) (i := 2) rfl rfl dX11_begin_6 ?_
  refine J_getI (pc := 7) X lx2 fl_11_45 dX11_begin_7 ?_
  refine J_iconst (pc := 10) X (v := 5) (by decide) dX11_begin_10 ?_
  refine J_mmin (pc := 11) X ml_11_50 dX11_begin_11 (Nat.le_of_ble_eq_true rfl) ?_
  refine J_putI (pc := 14) X ly123 fp_11_56 dX11_begin_14 ?_
  refine J_ltH hq (fun h2 hq => ?_)
  refine J_iconst (pc := 17) X (v := 0) (by decide) dX11_begin_17 ?_
  refine J_istore_n (pc := 18) X (L' := [(3, .inl 0), (0, .inr (.inr 123)), (1, .inr (.inr x1)), (2, .inr (.inr x2))]) (i := 3) rfl (by decide) rfl dX11_begin_18 ?_
  refine J_sub [1, 3, 0] rfl ?_
  refine tL_X11_begin_19 X _ _ N0 _ _ _ lx2 ?_ hq
  · intro h8 q hq
    refine J_iconst (pc := 49) X (v := 0) (by decide) dX11_begin_49 ?_
    refine J_istore_n (pc := 50) X (L' := [(3, .inl 0), (0, .inr (.inr 123)), (2, .inr (.inr x2))]) (i := 3) rfl (by decide) rfl dX11_begin_50 ?_
    refine J_sub [1, 2, 0] rfl ?_
    refine tL_X11_begin_51 X _ _ N0 _ _ _ lx2 ?_ hq
    · intro h20 q hq
      obtain rfl := Option.some.inj hq
      exact J_vret (pc := 117) X dX11_begin_117
theorem m_X11_begin (x1 : Nat) (x2 : Nat) (h : Hp) (q : Hp) (lx1 : lay x1 = some (.inl 8)) (lx2 : lay x2 = some (.inl 0)) (hq : f_X11_begin x1 x2 h = some q) : ∀ l w, CT l w yX11_begin cX11_begin 5 (none) 2 [.inr (.inr 123), .inr (.inr x1), .inr (.inr x2)] h (none, q) :=
  CT_of (L0 := [(0, .inr (.inr 123)), (1, .inr (.inr x1)), (2, .inr (.inr x2))]) (by decide) rfl (Nat.le_of_ble_eq_true rfl) (fun κ X => tf_X11_begin X x1 x2 h q lx1 lx2 hq)
theorem tf_X10_anyOf {κ : Kx} (X : OK κ cX10_anyOf 4 (some .int) "StruckWords$Tongue" 1) (x0 : Int64) (h : Hp) (q : (Int32 × Hp)) (hq : f_X10_anyOf x0 h = some q) : J κ 0 [(0, .inr (.inl x0))] [] h (some (.inl q.1), q.2) := by
  delta f_X10_anyOf at hq
  refine J_lload_n (pc := 0) X (j := 0) (i := 0) rfl rfl dX10_anyOf_0 ?_
  refine J_lload_n (pc := 1) X (j := 0) (i := 0) rfl rfl dX10_anyOf_1 ?_
  refine J_bipush (pc := 2) X (v := 32) (by decide) dX10_anyOf_2 ?_
  refine J_lushr (pc := 4) X dX10_anyOf_4 ?_
  refine J_lor (pc := 5) X dX10_anyOf_5 ?_
  refine J_ltL hq (fun v1 hq => ?_)
  refine J_lstore_n (pc := 6) X (L' := [(2, .inr (.inl v1)), (0, .inr (.inl x0))]) (i := 2) rfl (by decide) rfl dX10_anyOf_6 ?_
  refine J_lload_n (pc := 7) X (j := 0) (i := 2) rfl rfl dX10_anyOf_7 ?_
  refine J_lload_n (pc := 8) X (j := 0) (i := 2) rfl rfl dX10_anyOf_8 ?_
  refine J_bipush (pc := 9) X (v := 16) (by decide) dX10_anyOf_9 ?_
  refine J_lushr (pc := 11) X dX10_anyOf_11 ?_
  refine J_lor (pc := 12) X dX10_anyOf_12 ?_
  refine J_ltL hq (fun v2 hq => ?_)
  refine J_lstore_n (pc := 13) X (L' := [(2, .inr (.inl v2)), (0, .inr (.inl x0))]) (i := 2) rfl (by decide) rfl dX10_anyOf_13 ?_
  refine J_lload_n (pc := 14) X (j := 0) (i := 2) rfl rfl dX10_anyOf_14 ?_
  refine J_lload_n (pc := 15) X (j := 0) (i := 2) rfl rfl dX10_anyOf_15 ?_
  refine J_bipush (pc := 16) X (v := 8) (by decide) dX10_anyOf_16 ?_
  refine J_lushr (pc := 18) X dX10_anyOf_18 ?_
  refine J_lor (pc := 19) X dX10_anyOf_19 ?_
  refine J_ltL hq (fun v3 hq => ?_)
  refine J_lstore_n (pc := 20) X (L' := [(2, .inr (.inl v3)), (0, .inr (.inl x0))]) (i := 2) rfl (by decide) rfl dX10_anyOf_20 ?_
  refine J_lload_n (pc := 21) X (j := 0) (i := 2) rfl rfl dX10_anyOf_21 ?_
  refine J_l2i (pc := 22) X dX10_anyOf_22 ?_
  refine J_sipush (pc := 23) X (v := 255) (by decide) dX10_anyOf_23 ?_
  refine J_iand (pc := 26) X dX10_anyOf_26 ?_
  obtain rfl := Option.some.inj hq
  exact J_iret (pc := 27) X dX10_anyOf_27
theorem m_X10_anyOf (x0 : Int64) (h : Hp) (q : (Int32 × Hp)) (hq : f_X10_anyOf x0 h = some q) : ∀ l w, CT l w yX10_anyOf cX10_anyOf 4 (some .int) 1 [.inr (.inl x0)] h (some (.inl q.1), q.2) :=
  CT_of (L0 := [(0, .inr (.inl x0))]) (by decide) rfl (Nat.le_of_ble_eq_true rfl) (fun κ X => tf_X10_anyOf X x0 h q  hq)
theorem tF_X10_stepped_24 {κ : Kx} (X : OK κ cX10_stepped 11 (some .long) "StruckWords$Tongue" 2) (x0 : Nat) (x1 : Int64) (x3 : Int32) (x6 : Int32) (k119 : Int64 → Hp → Option (Int64 × Hp)) (self : Int64 → Int32 → Hp → Option (Int64 × Hp)) (x4 : Int64) (x7 : Int32) (h : Hp) (q : (Int64 × Hp)) (lx0 : lay x0 = some (.inl 8)) (hk119 : ∀ (x4 : Int64) (h : Hp) (q : (Int64 × Hp)), k119 x4 h = some q → J κ 119 [(4, .inr (.inl x4))] [] h (some (.inr (.inl q.1)), q.2)) (hself : ∀ (x4 : Int64) (x7 : Int32) (h : Hp) (q : (Int64 × Hp)), self x4 x7 h = some q → J κ 24 [(0, .inr (.inr x0)), (1, .inr (.inl x1)), (3, .inl x3), (4, .inr (.inl x4)), (6, .inl x6), (7, .inl x7)] [] h (some (.inr (.inl q.1)), q.2)) (hq : F_X10_stepped_24 x0 x1 x3 x6 k119 self x4 x7 h = some q) : J κ 24 [(0, .inr (.inr x0)), (1, .inr (.inl x1)), (3, .inl x3), (4, .inr (.inl x4)), (6, .inl x6), (7, .inl x7)] [] h (some (.inr (.inl q.1)), q.2) := by
  delta F_X10_stepped_24 at hq
  refine J_iload (pc := 24) X (j := 5) rfl dX10_stepped_24 ?_
  refine J_aload_n (pc := 26) X (j := 0) (i := 0) rfl rfl dX10_stepped_26 ?_
  refine J_getI (pc := 27) X lx0 fl_10_50 dX10_stepped_27 ?_
  refine J_icmp_ge (pc := 30) (tgt := 119) X dX10_stepped_30 rfl (fun c4 => ?_) (fun c4 => ?_)
  · have hq := ite_t hq c4
    refine J_sub [3] rfl ?_
    exact hk119 _ _ _ hq
  · have hq := ite_f hq c4
    refine J_iload (pc := 33) X (j := 4) rfl dX10_stepped_33 ?_
    refine J_iload (pc := 35) X (j := 5) rfl dX10_stepped_35 ?_
    refine J_ishr (pc := 37) X dX10_stepped_37 ?_
    refine J_iconst (pc := 38) X (v := 1) (by decide) dX10_stepped_38 ?_
    refine J_iand (pc := 39) X dX10_stepped_39 ?_
    refine J_if_eq (pc := 40) (tgt := 113) X dX10_stepped_40 rfl (fun c5 => ?_) (fun c5 => ?_)
    · have hq := ite_t hq c5
      refine J_iinc (pc := 113) X (j := 5) (v := 1) (L' := [(7, .inl (x7 + 1)), (0, .inr (.inr x0)), (1, .inr (.inl x1)), (3, .inl x3), (4, .inr (.inl x4)), (6, .inl x6)]) rfl (by decide) (by decide) rfl dX10_stepped_113 ?_
      refine J_goto (pc := 116) X (tgt := 24) dX10_stepped_116 rfl ?_
      refine J_sub [1, 2, 3, 4, 5, 0] rfl ?_
      exact hself _ _ _ _ hq
    · have hq := ite_f hq c5
      refine J_lload_n (pc := 43) X (j := 1) (i := 1) rfl rfl dX10_stepped_43 ?_
      refine J_aload_n (pc := 44) X (j := 0) (i := 0) rfl rfl dX10_stepped_44 ?_
      refine J_getF (pc := 45) X (b := x0 + 4) lx0 fl_10_25 rfl dX10_stepped_45 ?_
      refine J_iload (pc := 48) X (j := 5) rfl dX10_stepped_48 ?_
      obtain ⟨g6, hq⟩ := gd hq
      refine J_laload (pc := 50) X (ly_8_4 lx0) g6 dX10_stepped_50 ?_
      refine J_land (pc := 51) X dX10_stepped_51 ?_
      obtain ⟨v8, h7, hc, hq⟩ := bnd_e hq
      refine J_callS (pc := 52) (as := [.inr (.inl (x1 &&& (h.2.1 (x0 + 4) (x7.toNatClampNeg))))]) (st := []) (st2 := [.inl v8]) (r1 := (some (.inl v8), h7)) (h2 := h7) (ky := 1) X dX10_stepped_52 ca_X10_anyOf cz_X10_anyOf ml_10_111 (by decide) (m_X10_anyOf _ _ _ hc) rfl rfl (Nat.le_of_ble_eq_true rfl) rfl rfl ?_
      refine J_istore (pc := 55) X (L' := [(8, .inl v8), (0, .inr (.inr x0)), (1, .inr (.inl x1)), (3, .inl x3), (4, .inr (.inl x4)), (6, .inl x6), (7, .inl x7)]) (by decide) rfl dX10_stepped_55 ?_
      refine J_iload_n (pc := 57) X (j := 3) (i := 3) rfl rfl dX10_stepped_57 ?_
      refine J_iconst (pc := 58) X (v := 5) (by decide) dX10_stepped_58 ?_
      refine J_imul (pc := 59) X dX10_stepped_59 ?_
      refine J_iload (pc := 60) X (j := 6) rfl dX10_stepped_60 ?_
      refine J_iadd (pc := 62) X dX10_stepped_62 ?_
      refine J_bipush (pc := 63) X (v := 32) (by decide) dX10_stepped_63 ?_
      refine J_imul (pc := 65) X dX10_stepped_65 ?_
      refine J_ltI hq (fun v9 hq => ?_)
      refine J_istore (pc := 66) X (L' := [(9, .inl v9), (8, .inl v8), (0, .inr (.inr x0)), (1, .inr (.inl x1)), (3, .inl x3), (4, .inr (.inl x4)), (6, .inl x6), (7, .inl x7)]) (by decide) rfl dX10_stepped_66 ?_
      refine J_aload_n (pc := 68) X (j := 2) (i := 0) rfl rfl dX10_stepped_68 ?_
      refine J_getF (pc := 69) X (b := x0 + 10) lx0 fl_10_44 rfl dX10_stepped_69 ?_
      refine J_iload (pc := 72) X (j := 0) rfl dX10_stepped_72 ?_
      refine J_iload (pc := 74) X (j := 1) rfl dX10_stepped_74 ?_
      refine J_bipush (pc := 76) X (v := 15) (by decide) dX10_stepped_76 ?_
      refine J_iand (pc := 78) X dX10_stepped_78 ?_
      refine J_iadd (pc := 79) X dX10_stepped_79 ?_
      obtain ⟨g10, hq⟩ := gd hq
      refine J_iaload (pc := 80) X (ly_8_10 lx0) g10 dX10_stepped_80 ?_
      refine J_aload_n (pc := 81) X (j := 2) (i := 0) rfl rfl dX10_stepped_81 ?_
      refine J_getF (pc := 82) X (b := x0 + 10) lx0 fl_10_44 rfl dX10_stepped_82 ?_
      refine J_iload (pc := 85) X (j := 0) rfl dX10_stepped_85 ?_
      refine J_bipush (pc := 87) X (v := 16) (by decide) dX10_stepped_87 ?_
      refine J_iadd (pc := 89) X dX10_stepped_89 ?_
      refine J_iload (pc := 90) X (j := 1) rfl dX10_stepped_90 ?_
      refine J_iconst (pc := 92) X (v := 4) (by decide) dX10_stepped_92 ?_
      refine J_ishr (pc := 93) X dX10_stepped_93 ?_
      refine J_iadd (pc := 94) X dX10_stepped_94 ?_
      obtain ⟨g11, hq⟩ := gd hq
      refine J_iaload (pc := 95) X (ly_8_10 lx0) g11 dX10_stepped_95 ?_
      refine J_ior (pc := 96) X dX10_stepped_96 ?_
      refine J_ltI hq (fun v12 hq => ?_)
      refine J_istore (pc := 97) X (L' := [(10, .inl v12), (9, .inl v9), (8, .inl v8), (0, .inr (.inr x0)), (1, .inr (.inl x1)), (3, .inl x3), (4, .inr (.inl x4)), (6, .inl x6), (7, .inl x7)]) (by decide) rfl dX10_stepped_97 ?_
      refine J_lload (pc := 99) X (j := 6) rfl dX10_stepped_99 ?_
      refine J_iload (pc := 101) X (j := 0) rfl dX10_stepped_101 ?_
      refine J_i2l (pc := 103) X dX10_stepped_103 ?_
      refine J_bipush (pc := 104) X (v := 8) (by decide) dX10_stepped_104 ?_
      refine J_iload (pc := 106) X (j := 8) rfl dX10_stepped_106 ?_
      refine J_imul (pc := 108) X dX10_stepped_108 ?_
      refine J_lshl (pc := 109) X dX10_stepped_109 ?_
      refine J_lor (pc := 110) X dX10_stepped_110 ?_
      refine J_ltL hq (fun v13 hq => ?_)
      refine J_lstore (pc := 111) X (L' := [(4, .inr (.inl v13)), (10, .inl v12), (9, .inl v9), (8, .inl v8), (0, .inr (.inr x0)), (1, .inr (.inl x1)), (3, .inl x3), (6, .inl x6), (7, .inl x7)]) (by decide) rfl dX10_stepped_111 ?_
      refine J_iinc (pc := 113) X (j := 8) (v := 1) (L' := [(7, .inl (x7 + 1)), (4, .inr (.inl v13)), (10, .inl v12), (9, .inl v9), (8, .inl v8), (0, .inr (.inr x0)), (1, .inr (.inl x1)), (3, .inl x3), (6, .inl x6)]) rfl (by decide) (by decide) rfl dX10_stepped_113 ?_
      refine J_goto (pc := 116) X (tgt := 24) dX10_stepped_116 rfl ?_
      refine J_sub [5, 6, 7, 1, 8, 0] rfl ?_
      exact hself _ _ _ _ hq
theorem tL_X10_stepped_24 {κ : Kx} (X : OK κ cX10_stepped 11 (some .long) "StruckWords$Tongue" 2) (x0 : Nat) (x1 : Int64) (x3 : Int32) (x6 : Int32) (k119 : Int64 → Hp → Option (Int64 × Hp)) (N : Nat) (x4 : Int64) (x7 : Int32) (h : Hp) (q : (Int64 × Hp)) (lx0 : lay x0 = some (.inl 8)) (hk119 : ∀ (x4 : Int64) (h : Hp) (q : (Int64 × Hp)), k119 x4 h = some q → J κ 119 [(4, .inr (.inl x4))] [] h (some (.inr (.inl q.1)), q.2)) (hq : itr3 (F_X10_stepped_24 x0 x1 x3 x6 k119) N x4 x7 h = some q) : J κ 24 [(0, .inr (.inr x0)), (1, .inr (.inl x1)), (3, .inl x3), (4, .inr (.inl x4)), (6, .inl x6), (7, .inl x7)] [] h (some (.inr (.inl q.1)), q.2) :=
  itr3_ind (fun self hs x4 x7 h q hq => tF_X10_stepped_24 X x0 x1 x3 x6 k119 self x4 x7 h q lx0 hk119 hs hq) N x4 x7 h q hq
theorem tf_X10_stepped {κ : Kx} (X : OK κ cX10_stepped 11 (some .long) "StruckWords$Tongue" 2) (x0 : Nat) (x1 : Int64) (x3 : Int32) (h : Hp) (q : (Int64 × Hp)) (lx0 : lay x0 = some (.inl 8)) (hq : f_X10_stepped x0 x1 x3 h = some q) : J κ 0 [(0, .inr (.inr x0)), (1, .inr (.inl x1)), (3, .inl x3)] [] h (some (.inr (.inl q.1)), q.2) := by
  delta f_X10_stepped at hq
  refine J_lconst (pc := 0) X (v := 0) (by decide) dX10_stepped_0 ?_
  refine J_lstore (pc := 1) X (L' := [(4, .inr (.inl 0)), (0, .inr (.inr x0)), (1, .inr (.inl x1)), (3, .inl x3)]) (by decide) rfl dX10_stepped_1 ?_
  refine J_lload_n (pc := 3) X (j := 2) (i := 1) rfl rfl dX10_stepped_3 ?_
  refine J_lconst (pc := 4) X (v := 0) (by decide) dX10_stepped_4 ?_
  refine J_lcmp (pc := 5) X dX10_stepped_5 ?_
  refine J_if_ne (pc := 6) (tgt := 13) X dX10_stepped_6 rfl (fun c1 => ?_) (fun c1 => ?_)
  · have hq := ite_f hq c1
    refine J_aload_n (pc := 13) X (j := 1) (i := 0) rfl rfl dX10_stepped_13 ?_
    refine J_getF (pc := 14) X (b := x0 + 8) lx0 fl_10_38 rfl dX10_stepped_14 ?_
    refine J_iload_n (pc := 17) X (j := 3) (i := 3) rfl rfl dX10_stepped_17 ?_
    obtain ⟨g2, hq⟩ := gd hq
    refine J_iaload (pc := 18) X (ly_8_8 lx0) g2 dX10_stepped_18 ?_
    refine J_ltI hq (fun v3 hq => ?_)
    refine J_istore (pc := 19) X (L' := [(6, .inl v3), (4, .inr (.inl 0)), (0, .inr (.inr x0)), (1, .inr (.inl x1)), (3, .inl x3)]) (by decide) rfl dX10_stepped_19 ?_
    refine J_iconst (pc := 21) X (v := 0) (by decide) dX10_stepped_21 ?_
    refine J_istore (pc := 22) X (L' := [(7, .inl 0), (6, .inl v3), (4, .inr (.inl 0)), (0, .inr (.inr x0)), (1, .inr (.inl x1)), (3, .inl x3)]) (by decide) rfl dX10_stepped_22 ?_
    refine J_sub [3, 4, 5, 2, 1, 0] rfl ?_
    refine tL_X10_stepped_24 X _ _ _ _ _ N0 _ _ _ _ lx0 ?_ hq
    · intro v15 h14 q hq
      refine J_lload (pc := 119) X (j := 0) rfl dX10_stepped_119 ?_
      obtain rfl := Option.some.inj hq
      exact J_lret (pc := 121) X dX10_stepped_121
  · have hq := ite_t hq c1
    refine J_iconst (pc := 9) X (v := 0) (by decide) dX10_stepped_9 ?_
    refine J_goto (pc := 10) X (tgt := 19) dX10_stepped_10 rfl ?_
    refine J_istore (pc := 19) X (L' := [(6, .inl 0), (4, .inr (.inl 0)), (0, .inr (.inr x0)), (1, .inr (.inl x1)), (3, .inl x3)]) (by decide) rfl dX10_stepped_19 ?_
    refine J_iconst (pc := 21) X (v := 0) (by decide) dX10_stepped_21 ?_
    refine J_istore (pc := 22) X (L' := [(7, .inl 0), (6, .inl 0), (4, .inr (.inl 0)), (0, .inr (.inr x0)), (1, .inr (.inl x1)), (3, .inl x3)]) (by decide) rfl dX10_stepped_22 ?_
    refine J_sub [3, 4, 5, 2, 1, 0] rfl ?_
    refine tL_X10_stepped_24 X _ _ _ _ _ N0 _ _ _ _ lx0 ?_ hq
    · intro v17 h16 q hq
      refine J_lload (pc := 119) X (j := 0) rfl dX10_stepped_119 ?_
      obtain rfl := Option.some.inj hq
      exact J_lret (pc := 121) X dX10_stepped_121
theorem m_X10_stepped (x0 : Nat) (x1 : Int64) (x3 : Int32) (h : Hp) (q : (Int64 × Hp)) (lx0 : lay x0 = some (.inl 8)) (hq : f_X10_stepped x0 x1 x3 h = some q) : ∀ l w, CT l w yX10_stepped cX10_stepped 11 (some .long) 2 [.inr (.inr x0), .inr (.inl x1), .inl x3] h (some (.inr (.inl q.1)), q.2) :=
  CT_of (L0 := [(0, .inr (.inr x0)), (1, .inr (.inl x1)), (3, .inl x3)]) (by decide) rfl (Nat.le_of_ble_eq_true rfl) (fun κ X => tf_X10_stepped X x0 x1 x3 h q lx0 hq)
theorem tB_X11_beatsFit_83 {κ : Kx} (X : OK κ cX11_beatsFit 8 (some .boolean) "StruckWords$Walk" 1) (x1 : Int32) (x2 : Int32) (x3 : Int32) (x4 : Int32) (k123 : Hp → Option (Int32 × Hp)) (k131 : Hp → Option (Int32 × Hp)) (self : Int32 → Hp → Option (Int32 × Hp)) (x5 : Int32) (t0 : Int32) (t1 : Int32) (h : Hp) (q : (Int32 × Hp)) (hk123 : ∀ (h : Hp) (q : (Int32 × Hp)), k123 h = some q → J κ 123 [] [] h (some (.inl q.1), q.2)) (hk131 : ∀ (h : Hp) (q : (Int32 × Hp)), k131 h = some q → J κ 131 [] [] h (some (.inl q.1), q.2)) (hself : ∀ (x5 : Int32) (h : Hp) (q : (Int32 × Hp)), self x5 h = some q → J κ 25 [(0, .inr (.inr 123)), (1, .inl x1), (2, .inl x2), (3, .inl x3), (4, .inl x4), (5, .inl x5)] [] h (some (.inl q.1), q.2)) (hq : B_X11_beatsFit_83 x1 x2 x3 x4 k123 k131 self x5 t0 t1 h = some q) : J κ 83 [(0, .inr (.inr 123)), (1, .inl x1), (2, .inl x2), (3, .inl x3), (4, .inl x4), (5, .inl x5)] [.inl t0, .inl t1] h (some (.inl q.1), q.2) := by
  delta B_X11_beatsFit_83 at hq
  refine J_iadd (pc := 83) X dX11_beatsFit_83 ?_
  refine J_ltI hq (fun v11 hq => ?_)
  refine J_istore (pc := 84) X (L' := [(7, .inl v11), (0, .inr (.inr 123)), (1, .inl x1), (2, .inl x2), (3, .inl x3), (4, .inl x4), (5, .inl x5)]) (by decide) rfl dX11_beatsFit_84 ?_
  refine J_aload_n (pc := 86) X (j := 1) (i := 0) rfl rfl dX11_beatsFit_86 ?_
  refine J_getF (pc := 87) X (b := 125) ly123 fl_11_15 rfl dX11_beatsFit_87 ?_
  refine J_iload (pc := 90) X (j := 5) rfl dX11_beatsFit_90 ?_
  refine J_bipush (pc := 92) X (v := 6) (by decide) dX11_beatsFit_92 ?_
  refine J_iadd (pc := 94) X dX11_beatsFit_94 ?_
  refine J_iload (pc := 95) X (j := 6) rfl dX11_beatsFit_95 ?_
  refine J_iadd (pc := 97) X dX11_beatsFit_97 ?_
  refine J_iload (pc := 98) X (j := 0) rfl dX11_beatsFit_98 ?_
  obtain ⟨g12, hq⟩ := gd hq
  refine J_iastore (pc := 100) X ly125 g12 dX11_beatsFit_100 ?_
  refine J_ltH hq (fun h13 hq => ?_)
  refine J_iload (pc := 101) X (j := 0) rfl dX11_beatsFit_101 ?_
  refine J_aload_n (pc := 103) X (j := 1) (i := 0) rfl rfl dX11_beatsFit_103 ?_
  refine J_getI (pc := 104) X ly123 fl_11_38 dX11_beatsFit_104 ?_
  refine J_icmp_gt (pc := 107) (tgt := 123) X dX11_beatsFit_107 rfl (fun c14 => ?_) (fun c14 => ?_)
  · have hq := ite_t hq c14
    refine J_sub [] rfl ?_
    exact hk123 _ _ hq
  · have hq := ite_f hq c14
    refine J_iload_n (pc := 110) X (j := 4) (i := 3) rfl rfl dX11_beatsFit_110 ?_
    refine J_if_eq (pc := 111) (tgt := 125) X dX11_beatsFit_111 rfl (fun c15 => ?_) (fun c15 => ?_)
    · have hq := ite_t hq c15
      refine J_iinc (pc := 125) X (j := 6) (v := 1) (L' := [(5, .inl (x5 + 1)), (7, .inl v11), (0, .inr (.inr 123)), (1, .inl x1), (2, .inl x2), (3, .inl x3), (4, .inl x4)]) rfl (by decide) (by decide) rfl dX11_beatsFit_125 ?_
      refine J_goto (pc := 128) X (tgt := 25) dX11_beatsFit_128 rfl ?_
      refine J_sub [2, 3, 4, 5, 6, 0] rfl ?_
      exact hself _ _ _ hq
    · have hq := ite_f hq c15
      refine J_iload (pc := 114) X (j := 0) rfl dX11_beatsFit_114 ?_
      refine J_aload_n (pc := 116) X (j := 1) (i := 0) rfl rfl dX11_beatsFit_116 ?_
      refine J_getI (pc := 117) X ly123 fl_11_38 dX11_beatsFit_117 ?_
      refine J_icmp_eq (pc := 120) (tgt := 125) X dX11_beatsFit_120 rfl (fun c16 => ?_) (fun c16 => ?_)
      · have hq := ite_t hq c16
        refine J_iinc (pc := 125) X (j := 6) (v := 1) (L' := [(5, .inl (x5 + 1)), (7, .inl v11), (0, .inr (.inr 123)), (1, .inl x1), (2, .inl x2), (3, .inl x3), (4, .inl x4)]) rfl (by decide) (by decide) rfl dX11_beatsFit_125 ?_
        refine J_goto (pc := 128) X (tgt := 25) dX11_beatsFit_128 rfl ?_
        refine J_sub [2, 3, 4, 5, 6, 0] rfl ?_
        exact hself _ _ _ hq
      · have hq := ite_f hq c16
        refine J_sub [] rfl ?_
        exact hk123 _ _ hq
theorem tB_X11_beatsFit_53 {κ : Kx} (X : OK κ cX11_beatsFit 8 (some .boolean) "StruckWords$Walk" 1) (x1 : Int32) (x2 : Int32) (x3 : Int32) (x4 : Int32) (k123 : Hp → Option (Int32 × Hp)) (k131 : Hp → Option (Int32 × Hp)) (self : Int32 → Hp → Option (Int32 × Hp)) (x5 : Int32) (t0 : Int32) (h : Hp) (q : (Int32 × Hp)) (hk123 : ∀ (h : Hp) (q : (Int32 × Hp)), k123 h = some q → J κ 123 [] [] h (some (.inl q.1), q.2)) (hk131 : ∀ (h : Hp) (q : (Int32 × Hp)), k131 h = some q → J κ 131 [] [] h (some (.inl q.1), q.2)) (hself : ∀ (x5 : Int32) (h : Hp) (q : (Int32 × Hp)), self x5 h = some q → J κ 25 [(0, .inr (.inr 123)), (1, .inl x1), (2, .inl x2), (3, .inl x3), (4, .inl x4), (5, .inl x5)] [] h (some (.inl q.1), q.2)) (hq : B_X11_beatsFit_53 x1 x2 x3 x4 k123 k131 self x5 t0 h = some q) : J κ 53 [(0, .inr (.inr 123)), (1, .inl x1), (2, .inl x2), (3, .inl x3), (4, .inl x4), (5, .inl x5)] [.inl t0] h (some (.inl q.1), q.2) := by
  delta B_X11_beatsFit_53 at hq
  refine J_istore (pc := 53) X (L' := [(6, .inl t0), (0, .inr (.inr 123)), (1, .inl x1), (2, .inl x2), (3, .inl x3), (4, .inl x4), (5, .inl x5)]) (by decide) rfl dX11_beatsFit_53 ?_
  refine J_aload_n (pc := 55) X (j := 1) (i := 0) rfl rfl dX11_beatsFit_55 ?_
  refine J_getF (pc := 56) X (b := 125) ly123 fl_11_15 rfl dX11_beatsFit_56 ?_
  refine J_iload (pc := 59) X (j := 5) rfl dX11_beatsFit_59 ?_
  refine J_iload (pc := 61) X (j := 6) rfl dX11_beatsFit_61 ?_
  refine J_iadd (pc := 63) X dX11_beatsFit_63 ?_
  obtain ⟨g6, hq⟩ := gd hq
  refine J_iaload (pc := 64) X ly125 g6 dX11_beatsFit_64 ?_
  refine J_iload (pc := 65) X (j := 0) rfl dX11_beatsFit_65 ?_
  refine J_if_eq (pc := 67) (tgt := 74) X dX11_beatsFit_67 rfl (fun c7 => ?_) (fun c7 => ?_)
  · have hq := ite_t hq c7
    refine J_aload_n (pc := 74) X (j := 1) (i := 0) rfl rfl dX11_beatsFit_74 ?_
    refine J_getR (pc := 75) X ly123 fl_11_41 dX11_beatsFit_75 ?_
    refine J_ltR hq (fun r8 hq => ?_)
    obtain ⟨g9, hq⟩ := gd hq
    refine J_getF (pc := 78) X (b := r8 + 5) (isO_lay g9) fl_11_80 rfl dX11_beatsFit_78 ?_
    refine J_iload_n (pc := 81) X (j := 3) (i := 2) rfl rfl dX11_beatsFit_81 ?_
    obtain ⟨g10, hq⟩ := gd hq
    refine J_iaload (pc := 82) X (ly_8_5 (isO_lay g9)) g10 dX11_beatsFit_82 ?_
    refine J_sub [1, 2, 3, 4, 5, 6] rfl ?_
    exact tB_X11_beatsFit_83 X _ _ _ _ _ _ _ _ _ _ _ _ hk123 hk131 hself hq
  · have hq := ite_f hq c7
    refine J_iconst (pc := 70) X (v := 0) (by decide) dX11_beatsFit_70 ?_
    refine J_goto (pc := 71) X (tgt := 83) dX11_beatsFit_71 rfl ?_
    refine J_sub [1, 2, 3, 4, 5, 6] rfl ?_
    exact tB_X11_beatsFit_83 X _ _ _ _ _ _ _ _ _ _ _ _ hk123 hk131 hself hq
theorem tF_X11_beatsFit_25 {κ : Kx} (X : OK κ cX11_beatsFit 8 (some .boolean) "StruckWords$Walk" 1) (x1 : Int32) (x2 : Int32) (x3 : Int32) (x4 : Int32) (k123 : Hp → Option (Int32 × Hp)) (k131 : Hp → Option (Int32 × Hp)) (self : Int32 → Hp → Option (Int32 × Hp)) (x5 : Int32) (h : Hp) (q : (Int32 × Hp)) (hk123 : ∀ (h : Hp) (q : (Int32 × Hp)), k123 h = some q → J κ 123 [] [] h (some (.inl q.1), q.2)) (hk131 : ∀ (h : Hp) (q : (Int32 × Hp)), k131 h = some q → J κ 131 [] [] h (some (.inl q.1), q.2)) (hself : ∀ (x5 : Int32) (h : Hp) (q : (Int32 × Hp)), self x5 h = some q → J κ 25 [(0, .inr (.inr 123)), (1, .inl x1), (2, .inl x2), (3, .inl x3), (4, .inl x4), (5, .inl x5)] [] h (some (.inl q.1), q.2)) (hq : F_X11_beatsFit_25 x1 x2 x3 x4 k123 k131 self x5 h = some q) : J κ 25 [(0, .inr (.inr 123)), (1, .inl x1), (2, .inl x2), (3, .inl x3), (4, .inl x4), (5, .inl x5)] [] h (some (.inl q.1), q.2) := by
  delta F_X11_beatsFit_25 at hq
  refine J_iload (pc := 25) X (j := 5) rfl dX11_beatsFit_25 ?_
  refine J_aload_n (pc := 27) X (j := 0) (i := 0) rfl rfl dX11_beatsFit_27 ?_
  refine J_getI (pc := 28) X ly123 fl_11_56 dX11_beatsFit_28 ?_
  refine J_icmp_gt (pc := 31) (tgt := 131) X dX11_beatsFit_31 rfl (fun c3 => ?_) (fun c3 => ?_)
  · have hq := ite_t hq c3
    refine J_sub [] rfl ?_
    exact hk131 _ _ hq
  · have hq := ite_f hq c3
    refine J_aload_n (pc := 34) X (j := 0) (i := 0) rfl rfl dX11_beatsFit_34 ?_
    refine J_getF (pc := 35) X (b := 126) ly123 fl_11_19 rfl dX11_beatsFit_35 ?_
    refine J_iload_n (pc := 38) X (j := 1) (i := 1) rfl rfl dX11_beatsFit_38 ?_
    obtain ⟨g4, hq⟩ := gd hq
    refine J_iaload (pc := 39) X ly126 g4 dX11_beatsFit_39 ?_
    refine J_iload (pc := 40) X (j := 5) rfl dX11_beatsFit_40 ?_
    refine J_ishr (pc := 42) X dX11_beatsFit_42 ?_
    refine J_iconst (pc := 43) X (v := 1) (by decide) dX11_beatsFit_43 ?_
    refine J_iand (pc := 44) X dX11_beatsFit_44 ?_
    refine J_if_eq (pc := 45) (tgt := 52) X dX11_beatsFit_45 rfl (fun c5 => ?_) (fun c5 => ?_)
    · have hq := ite_t hq c5
      refine J_iconst (pc := 52) X (v := 0) (by decide) dX11_beatsFit_52 ?_
      exact tB_X11_beatsFit_53 X _ _ _ _ _ _ _ _ _ _ _ hk123 hk131 hself hq
    · have hq := ite_f hq c5
      refine J_iconst (pc := 48) X (v := 1) (by decide) dX11_beatsFit_48 ?_
      refine J_goto (pc := 49) X (tgt := 53) dX11_beatsFit_49 rfl ?_
      exact tB_X11_beatsFit_53 X _ _ _ _ _ _ _ _ _ _ _ hk123 hk131 hself hq
theorem tL_X11_beatsFit_25 {κ : Kx} (X : OK κ cX11_beatsFit 8 (some .boolean) "StruckWords$Walk" 1) (x1 : Int32) (x2 : Int32) (x3 : Int32) (x4 : Int32) (k123 : Hp → Option (Int32 × Hp)) (k131 : Hp → Option (Int32 × Hp)) (N : Nat) (x5 : Int32) (h : Hp) (q : (Int32 × Hp)) (hk123 : ∀ (h : Hp) (q : (Int32 × Hp)), k123 h = some q → J κ 123 [] [] h (some (.inl q.1), q.2)) (hk131 : ∀ (h : Hp) (q : (Int32 × Hp)), k131 h = some q → J κ 131 [] [] h (some (.inl q.1), q.2)) (hq : itr2 (F_X11_beatsFit_25 x1 x2 x3 x4 k123 k131) N x5 h = some q) : J κ 25 [(0, .inr (.inr 123)), (1, .inl x1), (2, .inl x2), (3, .inl x3), (4, .inl x4), (5, .inl x5)] [] h (some (.inl q.1), q.2) :=
  itr2_ind (fun self hs x5 h q hq => tF_X11_beatsFit_25 X x1 x2 x3 x4 k123 k131 self x5 h q hk123 hk131 hs hq) N x5 h q hq
theorem tB_X11_beatsFit_15 {κ : Kx} (X : OK κ cX11_beatsFit 8 (some .boolean) "StruckWords$Walk" 1) (x1 : Int32) (x2 : Int32) (t0 : Int32) (h : Hp) (q : (Int32 × Hp)) (hq : B_X11_beatsFit_15 x1 x2 t0 h = some q) : J κ 15 [(0, .inr (.inr 123)), (1, .inl x1), (2, .inl x2)] [.inl t0] h (some (.inl q.1), q.2) := by
  delta B_X11_beatsFit_15 at hq
  refine J_istore_n (pc := 15) X (L' := [(3, .inl t0), (0, .inr (.inr 123)), (1, .inl x1), (2, .inl x2)]) (i := 3) rfl (by decide) rfl dX11_beatsFit_15 ?_
  refine J_iload_n (pc := 16) X (j := 2) (i := 1) rfl rfl dX11_beatsFit_16 ?_
  refine J_bipush (pc := 17) X (v := 6) (by decide) dX11_beatsFit_17 ?_
  refine J_imul (pc := 19) X dX11_beatsFit_19 ?_
  refine J_ltI hq (fun v2 hq => ?_)
  refine J_istore (pc := 20) X (L' := [(4, .inl v2), (3, .inl t0), (0, .inr (.inr 123)), (1, .inl x1), (2, .inl x2)]) (by decide) rfl dX11_beatsFit_20 ?_
  refine J_iconst (pc := 22) X (v := 1) (by decide) dX11_beatsFit_22 ?_
  refine J_istore (pc := 23) X (L' := [(5, .inl 1), (4, .inl v2), (3, .inl t0), (0, .inr (.inr 123)), (1, .inl x1), (2, .inl x2)]) (by decide) rfl dX11_beatsFit_23 ?_
  refine J_sub [3, 4, 5, 2, 1, 0] rfl ?_
  refine tL_X11_beatsFit_25 X _ _ _ _ _ _ N0 _ _ _ ?_ ?_ hq
  · intro h17 q hq
    refine J_iconst (pc := 123) X (v := 0) (by decide) dX11_beatsFit_123 ?_
    obtain rfl := Option.some.inj hq
    exact J_zret (pc := 124) X (by decide) dX11_beatsFit_124
  · intro h18 q hq
    refine J_iconst (pc := 131) X (v := 1) (by decide) dX11_beatsFit_131 ?_
    obtain rfl := Option.some.inj hq
    exact J_zret (pc := 132) X (by decide) dX11_beatsFit_132
theorem tf_X11_beatsFit {κ : Kx} (X : OK κ cX11_beatsFit 8 (some .boolean) "StruckWords$Walk" 1) (x1 : Int32) (x2 : Int32) (h : Hp) (q : (Int32 × Hp)) (hq : f_X11_beatsFit x1 x2 h = some q) : J κ 0 [(0, .inr (.inr 123)), (1, .inl x1), (2, .inl x2)] [] h (some (.inl q.1), q.2) := by
  delta f_X11_beatsFit at hq
  refine J_iload_n (pc := 0) X (j := 1) (i := 1) rfl rfl dX11_beatsFit_0 ?_
  refine J_iconst (pc := 1) X (v := 1) (by decide) dX11_beatsFit_1 ?_
  refine J_iadd (pc := 2) X dX11_beatsFit_2 ?_
  refine J_aload_n (pc := 3) X (j := 0) (i := 0) rfl rfl dX11_beatsFit_3 ?_
  refine J_getI (pc := 4) X ly123 fl_11_34 dX11_beatsFit_4 ?_
  refine J_icmp_ne (pc := 7) (tgt := 14) X dX11_beatsFit_7 rfl (fun c1 => ?_) (fun c1 => ?_)
  · have hq := ite_f hq c1
    refine J_iconst (pc := 14) X (v := 0) (by decide) dX11_beatsFit_14 ?_
    exact tB_X11_beatsFit_15 X _ _ _ _ _ hq
  · have hq := ite_t hq c1
    refine J_iconst (pc := 10) X (v := 1) (by decide) dX11_beatsFit_10 ?_
    refine J_goto (pc := 11) X (tgt := 15) dX11_beatsFit_11 rfl ?_
    exact tB_X11_beatsFit_15 X _ _ _ _ _ hq
theorem m_X11_beatsFit (x1 : Int32) (x2 : Int32) (h : Hp) (q : (Int32 × Hp)) (hq : f_X11_beatsFit x1 x2 h = some q) : ∀ l w, CT l w yX11_beatsFit cX11_beatsFit 8 (some .boolean) 1 [.inr (.inr 123), .inl x1, .inl x2] h (some (.inl q.1), q.2) :=
  CT_of (L0 := [(0, .inr (.inr 123)), (1, .inl x1), (2, .inl x2)]) (by decide) rfl (Nat.le_of_ble_eq_true rfl) (fun κ X => tf_X11_beatsFit X x1 x2 h q  hq)
theorem tf_J6_bitCount_0f7a4 {κ : Kx} (X : OK κ cJ6_bitCount_0f7a4 1 (some .int) "java/lang/Integer" 1) (x0 : Int32) (h : Hp) (q : (Int32 × Hp)) (hq : f_J6_bitCount_0f7a4 x0 h = some q) : J κ 0 [(0, .inl x0)] [] h (some (.inl q.1), q.2) := by
  delta f_J6_bitCount_0f7a4 at hq
  refine J_iload_n (pc := 0) X (j := 0) (i := 0) rfl rfl dJ6_bitCount_0f7a4_0 ?_
  refine J_iload_n (pc := 1) X (j := 0) (i := 0) rfl rfl dJ6_bitCount_0f7a4_1 ?_
  refine J_iconst (pc := 2) X (v := 1) (by decide) dJ6_bitCount_0f7a4_2 ?_
  refine J_iushr (pc := 3) X dJ6_bitCount_0f7a4_3 ?_
  refine J_ldcw (pc := 4) X cn_91_265 dJ6_bitCount_0f7a4_4 ?_
  refine J_iand (pc := 7) X dJ6_bitCount_0f7a4_7 ?_
  refine J_isub (pc := 8) X dJ6_bitCount_0f7a4_8 ?_
  refine J_ltI hq (fun v1 hq => ?_)
  refine J_istore_n (pc := 9) X (L' := [(0, .inl v1)]) (i := 0) rfl (by decide) rfl dJ6_bitCount_0f7a4_9 ?_
  refine J_iload_n (pc := 10) X (j := 0) (i := 0) rfl rfl dJ6_bitCount_0f7a4_10 ?_
  refine J_ldcw (pc := 11) X cn_91_266 dJ6_bitCount_0f7a4_11 ?_
  refine J_iand (pc := 14) X dJ6_bitCount_0f7a4_14 ?_
  refine J_iload_n (pc := 15) X (j := 0) (i := 0) rfl rfl dJ6_bitCount_0f7a4_15 ?_
  refine J_iconst (pc := 16) X (v := 2) (by decide) dJ6_bitCount_0f7a4_16 ?_
  refine J_iushr (pc := 17) X dJ6_bitCount_0f7a4_17 ?_
  refine J_ldcw (pc := 18) X cn_91_266 dJ6_bitCount_0f7a4_18 ?_
  refine J_iand (pc := 21) X dJ6_bitCount_0f7a4_21 ?_
  refine J_iadd (pc := 22) X dJ6_bitCount_0f7a4_22 ?_
  refine J_ltI hq (fun v2 hq => ?_)
  refine J_istore_n (pc := 23) X (L' := [(0, .inl v2)]) (i := 0) rfl (by decide) rfl dJ6_bitCount_0f7a4_23 ?_
  refine J_iload_n (pc := 24) X (j := 0) (i := 0) rfl rfl dJ6_bitCount_0f7a4_24 ?_
  refine J_iload_n (pc := 25) X (j := 0) (i := 0) rfl rfl dJ6_bitCount_0f7a4_25 ?_
  refine J_iconst (pc := 26) X (v := 4) (by decide) dJ6_bitCount_0f7a4_26 ?_
  refine J_iushr (pc := 27) X dJ6_bitCount_0f7a4_27 ?_
  refine J_iadd (pc := 28) X dJ6_bitCount_0f7a4_28 ?_
  refine J_ldcw (pc := 29) X cn_91_267 dJ6_bitCount_0f7a4_29 ?_
  refine J_iand (pc := 32) X dJ6_bitCount_0f7a4_32 ?_
  refine J_ltI hq (fun v3 hq => ?_)
  refine J_istore_n (pc := 33) X (L' := [(0, .inl v3)]) (i := 0) rfl (by decide) rfl dJ6_bitCount_0f7a4_33 ?_
  refine J_iload_n (pc := 34) X (j := 0) (i := 0) rfl rfl dJ6_bitCount_0f7a4_34 ?_
  refine J_iload_n (pc := 35) X (j := 0) (i := 0) rfl rfl dJ6_bitCount_0f7a4_35 ?_
  refine J_bipush (pc := 36) X (v := 8) (by decide) dJ6_bitCount_0f7a4_36 ?_
  refine J_iushr (pc := 38) X dJ6_bitCount_0f7a4_38 ?_
  refine J_iadd (pc := 39) X dJ6_bitCount_0f7a4_39 ?_
  refine J_ltI hq (fun v4 hq => ?_)
  refine J_istore_n (pc := 40) X (L' := [(0, .inl v4)]) (i := 0) rfl (by decide) rfl dJ6_bitCount_0f7a4_40 ?_
  refine J_iload_n (pc := 41) X (j := 0) (i := 0) rfl rfl dJ6_bitCount_0f7a4_41 ?_
  refine J_iload_n (pc := 42) X (j := 0) (i := 0) rfl rfl dJ6_bitCount_0f7a4_42 ?_
  refine J_bipush (pc := 43) X (v := 16) (by decide) dJ6_bitCount_0f7a4_43 ?_
  refine J_iushr (pc := 45) X dJ6_bitCount_0f7a4_45 ?_
  refine J_iadd (pc := 46) X dJ6_bitCount_0f7a4_46 ?_
  refine J_ltI hq (fun v5 hq => ?_)
  refine J_istore_n (pc := 47) X (L' := [(0, .inl v5)]) (i := 0) rfl (by decide) rfl dJ6_bitCount_0f7a4_47 ?_
  refine J_iload_n (pc := 48) X (j := 0) (i := 0) rfl rfl dJ6_bitCount_0f7a4_48 ?_
  refine J_bipush (pc := 49) X (v := 63) (by decide) dJ6_bitCount_0f7a4_49 ?_
  refine J_iand (pc := 51) X dJ6_bitCount_0f7a4_51 ?_
  obtain rfl := Option.some.inj hq
  exact J_iret (pc := 52) X dJ6_bitCount_0f7a4_52
theorem m_J6_bitCount_0f7a4 (x0 : Int32) (h : Hp) (q : (Int32 × Hp)) (hq : f_J6_bitCount_0f7a4 x0 h = some q) : ∀ l w, CT l w yJ6_bitCount_0f7a4 cJ6_bitCount_0f7a4 1 (some .int) 1 [.inl x0] h (some (.inl q.1), q.2) :=
  CT_of (L0 := [(0, .inl x0)]) (by decide) rfl (Nat.le_of_ble_eq_true rfl) (fun κ X => tf_J6_bitCount_0f7a4 X x0 h q  hq)
theorem tf_X10_meant {κ : Kx} (X : OK κ cX10_meant 3 (some .int) "StruckWords$Tongue" 2) (x0 : Nat) (x1 : Int64) (h : Hp) (q : (Int32 × Hp)) (lx0 : lay x0 = some (.inl 8)) (hq : f_X10_meant x0 x1 h = some q) : J κ 0 [(0, .inr (.inr x0)), (1, .inr (.inl x1))] [] h (some (.inl q.1), q.2) := by
  delta f_X10_meant at hq
  refine J_lload_n (pc := 0) X (j := 1) (i := 1) rfl rfl dX10_meant_0 ?_
  refine J_aload_n (pc := 1) X (j := 0) (i := 0) rfl rfl dX10_meant_1 ?_
  refine J_getL (pc := 2) X lx0 fl_10_73 dX10_meant_2 ?_
  refine J_land (pc := 5) X dX10_meant_5 ?_
  obtain ⟨v2, h1, hc, hq⟩ := bnd_e hq
  refine J_callS (pc := 6) (as := [.inr (.inl (x1 &&& (h.2.1 x0 7)))]) (st := []) (st2 := [.inl v2]) (r1 := (some (.inl v2), h1)) (h2 := h1) (ky := 1) X dX10_meant_6 ca_X10_anyOf cz_X10_anyOf ml_10_111 (by decide) (m_X10_anyOf _ _ _ hc) rfl rfl (Nat.le_of_ble_eq_true rfl) rfl rfl ?_
  obtain rfl := Option.some.inj hq
  exact J_iret (pc := 9) X dX10_meant_9
theorem m_X10_meant (x0 : Nat) (x1 : Int64) (h : Hp) (q : (Int32 × Hp)) (lx0 : lay x0 = some (.inl 8)) (hq : f_X10_meant x0 x1 h = some q) : ∀ l w, CT l w yX10_meant cX10_meant 3 (some .int) 2 [.inr (.inr x0), .inr (.inl x1)] h (some (.inl q.1), q.2) :=
  CT_of (L0 := [(0, .inr (.inr x0)), (1, .inr (.inl x1))]) (by decide) rfl (Nat.le_of_ble_eq_true rfl) (fun κ X => tf_X10_meant X x0 x1 h q lx0 hq)
theorem tf_X11_meets {κ : Kx} (X : OK κ cX11_meets 5 (some .boolean) "StruckWords$Walk" 3) (x1 : Int64) (x3 : Int32) (h : Hp) (q : (Int32 × Hp)) (hq : f_X11_meets x1 x3 h = some q) : J κ 0 [(0, .inr (.inr 123)), (1, .inr (.inl x1)), (3, .inl x3)] [] h (some (.inl q.1), q.2) := by
  delta f_X11_meets at hq
  refine J_aload_n (pc := 0) X (j := 0) (i := 0) rfl rfl dX11_meets_0 ?_
  refine J_getR (pc := 1) X ly123 fl_11_41 dX11_meets_1 ?_
  refine J_ltR hq (fun r1 hq => ?_)
  obtain ⟨g2, hq⟩ := gd hq
  refine J_lload_n (pc := 4) X (j := 1) (i := 1) rfl rfl dX11_meets_4 ?_
  obtain ⟨v4, h3, hc, hq⟩ := bnd_e hq
  refine J_callV (pc := 5) (as := [.inr (.inl x1)]) (st := []) (st2 := [.inl v4]) (r1 := (some (.inl v4), h3)) (h2 := h3) (ky := 2) X dX11_meets_5 ca_X10_meant ci_X10_meant cs_X10_meant ml_11_81 (by decide) (isO_lay g2) rfl rfl (m_X10_meant _ _ _ _ (isO_lay g2) hc) rfl rfl (Nat.le_of_ble_eq_true rfl) rfl rfl ?_
  refine J_istore (pc := 8) X (L' := [(4, .inl v4), (0, .inr (.inr 123)), (1, .inr (.inl x1)), (3, .inl x3)]) (by decide) rfl dX11_meets_8 ?_
  refine J_iload_n (pc := 10) X (j := 3) (i := 3) rfl rfl dX11_meets_10 ?_
  refine J_bipush (pc := 11) X (v := 8) (by decide) dX11_meets_11 ?_
  refine J_icmp_ne (pc := 13) (tgt := 27) X dX11_meets_13 rfl (fun c5 => ?_) (fun c5 => ?_)
  · have hq := ite_f hq c5
    refine J_iload_n (pc := 27) X (j := 3) (i := 3) rfl rfl dX11_meets_27 ?_
    refine J_bipush (pc := 28) X (v := 10) (by decide) dX11_meets_28 ?_
    refine J_icmp_ne (pc := 30) (tgt := 50) X dX11_meets_30 rfl (fun c6 => ?_) (fun c6 => ?_)
    · have hq := ite_f hq c6
      refine J_iload (pc := 50) X (j := 0) rfl dX11_meets_50 ?_
      refine J_iconst (pc := 52) X (v := 1) (by decide) dX11_meets_52 ?_
      refine J_iload_n (pc := 53) X (j := 3) (i := 3) rfl rfl dX11_meets_53 ?_
      refine J_ishl (pc := 54) X dX11_meets_54 ?_
      refine J_icmp_ne (pc := 55) (tgt := 62) X dX11_meets_55 rfl (fun c7 => ?_) (fun c7 => ?_)
      · have hq := ite_f hq c7
        refine J_iconst (pc := 62) X (v := 0) (by decide) dX11_meets_62 ?_
        obtain rfl := Option.some.inj hq
        exact J_zret (pc := 63) X (by decide) dX11_meets_63
      · have hq := ite_t hq c7
        refine J_iconst (pc := 58) X (v := 1) (by decide) dX11_meets_58 ?_
        refine J_goto (pc := 59) X (tgt := 63) dX11_meets_59 rfl ?_
        obtain rfl := Option.some.inj hq
        exact J_zret (pc := 63) X (by decide) dX11_meets_63
    · have hq := ite_t hq c6
      refine J_iload (pc := 33) X (j := 0) rfl dX11_meets_33 ?_
      obtain ⟨v9, h8, hc, hq⟩ := bnd_e hq
      refine J_callS (pc := 35) (as := [.inl v4]) (st := []) (st2 := [.inl v9]) (r1 := (some (.inl v9), h8)) (h2 := h8) (ky := 1) X dX11_meets_35 ca_J6_bitCount_0f7a4 cz_J6_bitCount_0f7a4 ml_11_85 (by decide) (m_J6_bitCount_0f7a4 _ _ _ hc) rfl rfl (Nat.le_of_ble_eq_true rfl) rfl rfl ?_
      refine J_iconst (pc := 38) X (v := 1) (by decide) dX11_meets_38 ?_
      refine J_icmp_ne (pc := 39) (tgt := 46) X dX11_meets_39 rfl (fun c10 => ?_) (fun c10 => ?_)
      · have hq := ite_f hq c10
        refine J_iconst (pc := 46) X (v := 0) (by decide) dX11_meets_46 ?_
        refine J_goto (pc := 47) X (tgt := 63) dX11_meets_47 rfl ?_
        obtain rfl := Option.some.inj hq
        exact J_zret (pc := 63) X (by decide) dX11_meets_63
      · have hq := ite_t hq c10
        refine J_iconst (pc := 42) X (v := 1) (by decide) dX11_meets_42 ?_
        refine J_goto (pc := 43) X (tgt := 63) dX11_meets_43 rfl ?_
        obtain rfl := Option.some.inj hq
        exact J_zret (pc := 63) X (by decide) dX11_meets_63
  · have hq := ite_t hq c5
    refine J_iload (pc := 16) X (j := 0) rfl dX11_meets_16 ?_
    refine J_if_ne (pc := 18) (tgt := 25) X dX11_meets_18 rfl (fun c11 => ?_) (fun c11 => ?_)
    · have hq := ite_f hq c11
      refine J_iconst (pc := 25) X (v := 0) (by decide) dX11_meets_25 ?_
      obtain rfl := Option.some.inj hq
      exact J_zret (pc := 26) X (by decide) dX11_meets_26
    · have hq := ite_t hq c11
      refine J_iconst (pc := 21) X (v := 1) (by decide) dX11_meets_21 ?_
      refine J_goto (pc := 22) X (tgt := 26) dX11_meets_22 rfl ?_
      obtain rfl := Option.some.inj hq
      exact J_zret (pc := 26) X (by decide) dX11_meets_26
theorem m_X11_meets (x1 : Int64) (x3 : Int32) (h : Hp) (q : (Int32 × Hp)) (hq : f_X11_meets x1 x3 h = some q) : ∀ l w, CT l w yX11_meets cX11_meets 5 (some .boolean) 3 [.inr (.inr 123), .inr (.inl x1), .inl x3] h (some (.inl q.1), q.2) :=
  CT_of (L0 := [(0, .inr (.inr 123)), (1, .inr (.inl x1)), (3, .inl x3)]) (by decide) rfl (Nat.le_of_ble_eq_true rfl) (fun κ X => tf_X11_meets X x1 x3 h q  hq)
theorem tB_X11_put_179 {κ : Kx} (X : OK κ cX11_put 9 (some .boolean) "StruckWords$Walk" 4) (x1 : Int32) (x2 : Int32) (x3 : Int32) (x4 : Int32) (k199 : Hp → Option (Int32 × Hp)) (k207 : Hp → Option (Int32 × Hp)) (self : Int32 → Hp → Option (Int32 × Hp)) (x5 : Int32) (x7 : Int64) (h : Hp) (q : (Int32 × Hp)) (hk199 : ∀ (h : Hp) (q : (Int32 × Hp)), k199 h = some q → J κ 199 [] [] h (some (.inl q.1), q.2)) (hk207 : ∀ (h : Hp) (q : (Int32 × Hp)), k207 h = some q → J κ 207 [] [] h (some (.inl q.1), q.2)) (hself : ∀ (x5 : Int32) (h : Hp) (q : (Int32 × Hp)), self x5 h = some q → J κ 65 [(0, .inr (.inr 123)), (1, .inl x1), (2, .inl x2), (3, .inl x3), (4, .inl x4), (5, .inl x5)] [] h (some (.inl q.1), q.2)) (hq : B_X11_put_179 x1 x2 x3 x4 k199 k207 self x5 x7 h = some q) : J κ 179 [(0, .inr (.inr 123)), (1, .inl x1), (2, .inl x2), (3, .inl x3), (4, .inl x4), (5, .inl x5), (7, .inr (.inl x7))] [] h (some (.inl q.1), q.2) := by
  delta B_X11_put_179 at hq
  refine J_iload_n (pc := 179) X (j := 3) (i := 3) rfl rfl dX11_put_179 ?_
  refine J_if_eq (pc := 180) (tgt := 201) X dX11_put_180 rfl (fun c22 => ?_) (fun c22 => ?_)
  · have hq := ite_t hq c22
    refine J_iinc (pc := 201) X (j := 5) (v := 1) (L' := [(5, .inl (x5 + 1)), (0, .inr (.inr 123)), (1, .inl x1), (2, .inl x2), (3, .inl x3), (4, .inl x4), (7, .inr (.inl x7))]) rfl (by decide) (by decide) rfl dX11_put_201 ?_
    refine J_goto (pc := 204) X (tgt := 65) dX11_put_204 rfl ?_
    refine J_sub [1, 2, 3, 4, 5, 0] rfl ?_
    exact hself _ _ _ hq
  · have hq := ite_f hq c22
    refine J_aload_n (pc := 183) X (j := 0) (i := 0) rfl rfl dX11_put_183 ?_
    refine J_lload (pc := 184) X (j := 6) rfl dX11_put_184 ?_
    refine J_aload_n (pc := 186) X (j := 0) (i := 0) rfl rfl dX11_put_186 ?_
    refine J_getF (pc := 187) X (b := 127) ly123 fl_11_22 rfl dX11_put_187 ?_
    refine J_iload (pc := 190) X (j := 5) rfl dX11_put_190 ?_
    obtain ⟨g23, hq⟩ := gd hq
    refine J_iaload (pc := 192) X ly127 g23 dX11_put_192 ?_
    obtain ⟨v25, h24, hc, hq⟩ := bnd_e hq
    refine J_callV (pc := 193) (as := [.inr (.inl x7), .inl (h.1 127 (x5.toNatClampNeg))]) (st := []) (st2 := [.inl v25]) (r1 := (some (.inl v25), h24)) (h2 := h24) (ky := 3) X dX11_put_193 ca_X11_meets ci_X11_meets cs_X11_meets ml_11_76 (by decide) ly123 rfl rfl (m_X11_meets _ _ _ _ hc) rfl rfl (Nat.le_of_ble_eq_true rfl) rfl rfl ?_
    refine J_if_ne (pc := 196) (tgt := 201) X dX11_put_196 rfl (fun c26 => ?_) (fun c26 => ?_)
    · have hq := ite_f hq c26
      refine J_iinc (pc := 201) X (j := 5) (v := 1) (L' := [(5, .inl (x5 + 1)), (0, .inr (.inr 123)), (1, .inl x1), (2, .inl x2), (3, .inl x3), (4, .inl x4), (7, .inr (.inl x7))]) rfl (by decide) (by decide) rfl dX11_put_201 ?_
      refine J_goto (pc := 204) X (tgt := 65) dX11_put_204 rfl ?_
      refine J_sub [1, 2, 3, 4, 5, 0] rfl ?_
      exact hself _ _ _ hq
    · have hq := ite_t hq c26
      refine J_sub [] rfl ?_
      exact hk199 _ _ hq
theorem tB_X11_put_143 {κ : Kx} (X : OK κ cX11_put 9 (some .boolean) "StruckWords$Walk" 4) (x1 : Int32) (x2 : Int32) (x3 : Int32) (x4 : Int32) (k199 : Hp → Option (Int32 × Hp)) (k207 : Hp → Option (Int32 × Hp)) (self : Int32 → Hp → Option (Int32 × Hp)) (x5 : Int32) (t0 : Int64) (h : Hp) (q : (Int32 × Hp)) (hk199 : ∀ (h : Hp) (q : (Int32 × Hp)), k199 h = some q → J κ 199 [] [] h (some (.inl q.1), q.2)) (hk207 : ∀ (h : Hp) (q : (Int32 × Hp)), k207 h = some q → J κ 207 [] [] h (some (.inl q.1), q.2)) (hself : ∀ (x5 : Int32) (h : Hp) (q : (Int32 × Hp)), self x5 h = some q → J κ 65 [(0, .inr (.inr 123)), (1, .inl x1), (2, .inl x2), (3, .inl x3), (4, .inl x4), (5, .inl x5)] [] h (some (.inl q.1), q.2)) (hq : B_X11_put_143 x1 x2 x3 x4 k199 k207 self x5 t0 h = some q) : J κ 143 [(0, .inr (.inr 123)), (1, .inl x1), (2, .inl x2), (3, .inl x3), (4, .inl x4), (5, .inl x5)] [.inr (.inl t0)] h (some (.inl q.1), q.2) := by
  delta B_X11_put_143 at hq
  refine J_lstore (pc := 143) X (L' := [(7, .inr (.inl t0)), (0, .inr (.inr 123)), (1, .inl x1), (2, .inl x2), (3, .inl x3), (4, .inl x4), (5, .inl x5)]) (by decide) rfl dX11_put_143 ?_
  refine J_aload_n (pc := 145) X (j := 1) (i := 0) rfl rfl dX11_put_145 ?_
  refine J_getF (pc := 146) X (b := 124) ly123 fl_11_9 rfl dX11_put_146 ?_
  refine J_iload (pc := 149) X (j := 5) rfl dX11_put_149 ?_
  refine J_bipush (pc := 151) X (v := 6) (by decide) dX11_put_151 ?_
  refine J_iadd (pc := 153) X dX11_put_153 ?_
  refine J_iload (pc := 154) X (j := 6) rfl dX11_put_154 ?_
  refine J_iadd (pc := 156) X dX11_put_156 ?_
  refine J_lload (pc := 157) X (j := 0) rfl dX11_put_157 ?_
  obtain ⟨g19, hq⟩ := gd hq
  refine J_lastore (pc := 159) X ly124 g19 dX11_put_159 ?_
  refine J_ltH hq (fun h20 hq => ?_)
  refine J_lload (pc := 160) X (j := 0) rfl dX11_put_160 ?_
  refine J_lconst (pc := 162) X (v := 0) (by decide) dX11_put_162 ?_
  refine J_lcmp (pc := 163) X dX11_put_163 ?_
  refine J_if_ne (pc := 164) (tgt := 179) X dX11_put_164 rfl (fun c21 => ?_) (fun c21 => ?_)
  · have hq := ite_f hq c21
    refine J_sub [1, 2, 3, 4, 5, 6, 0] rfl ?_
    exact tB_X11_put_179 X _ _ _ _ _ _ _ _ _ _ _ hk199 hk207 hself hq
  · have hq := ite_t hq c21
    refine J_aload_n (pc := 167) X (j := 1) (i := 0) rfl rfl dX11_put_167 ?_
    refine J_getF (pc := 168) X (b := 127) ly123 fl_11_22 rfl dX11_put_168 ?_
    refine J_iload (pc := 171) X (j := 6) rfl dX11_put_171 ?_
    obtain ⟨g27, hq⟩ := gd hq
    refine J_iaload (pc := 173) X ly127 g27 dX11_put_173 ?_
    refine J_bipush (pc := 174) X (v := 8) (by decide) dX11_put_174 ?_
    refine J_icmp_ne (pc := 176) (tgt := 199) X dX11_put_176 rfl (fun c28 => ?_) (fun c28 => ?_)
    · have hq := ite_f hq c28
      refine J_sub [] rfl ?_
      exact hk199 _ _ hq
    · have hq := ite_t hq c28
      refine J_sub [1, 2, 3, 4, 5, 6, 0] rfl ?_
      exact tB_X11_put_179 X _ _ _ _ _ _ _ _ _ _ _ hk199 hk207 hself hq
theorem tB_X11_put_105 {κ : Kx} (X : OK κ cX11_put 9 (some .boolean) "StruckWords$Walk" 4) (x1 : Int32) (x2 : Int32) (x3 : Int32) (x4 : Int32) (k199 : Hp → Option (Int32 × Hp)) (k207 : Hp → Option (Int32 × Hp)) (self : Int32 → Hp → Option (Int32 × Hp)) (x5 : Int32) (t0 : Int32) (h : Hp) (q : (Int32 × Hp)) (hk199 : ∀ (h : Hp) (q : (Int32 × Hp)), k199 h = some q → J κ 199 [] [] h (some (.inl q.1), q.2)) (hk207 : ∀ (h : Hp) (q : (Int32 × Hp)), k207 h = some q → J κ 207 [] [] h (some (.inl q.1), q.2)) (hself : ∀ (x5 : Int32) (h : Hp) (q : (Int32 × Hp)), self x5 h = some q → J κ 65 [(0, .inr (.inr 123)), (1, .inl x1), (2, .inl x2), (3, .inl x3), (4, .inl x4), (5, .inl x5)] [] h (some (.inl q.1), q.2)) (hq : B_X11_put_105 x1 x2 x3 x4 k199 k207 self x5 t0 h = some q) : J κ 105 [(0, .inr (.inr 123)), (1, .inl x1), (2, .inl x2), (3, .inl x3), (4, .inl x4), (5, .inl x5)] [.inl t0] h (some (.inl q.1), q.2) := by
  delta B_X11_put_105 at hq
  refine J_istore (pc := 105) X (L' := [(6, .inl t0), (0, .inr (.inr 123)), (1, .inl x1), (2, .inl x2), (3, .inl x3), (4, .inl x4), (5, .inl x5)]) (by decide) rfl dX11_put_105 ?_
  refine J_iload (pc := 107) X (j := 0) rfl dX11_put_107 ?_
  refine J_if_eq (pc := 109) (tgt := 125) X dX11_put_109 rfl (fun c13 => ?_) (fun c13 => ?_)
  · have hq := ite_t hq c13
    refine J_aload_n (pc := 125) X (j := 1) (i := 0) rfl rfl dX11_put_125 ?_
    refine J_getR (pc := 126) X ly123 fl_11_41 dX11_put_126 ?_
    refine J_ltR hq (fun r14 hq => ?_)
    obtain ⟨g15, hq⟩ := gd hq
    refine J_aload_n (pc := 129) X (j := 1) (i := 0) rfl rfl dX11_put_129 ?_
    refine J_getF (pc := 130) X (b := 124) ly123 fl_11_9 rfl dX11_put_130 ?_
    refine J_iload (pc := 133) X (j := 5) rfl dX11_put_133 ?_
    refine J_iload (pc := 135) X (j := 6) rfl dX11_put_135 ?_
    refine J_iadd (pc := 137) X dX11_put_137 ?_
    obtain ⟨g16, hq⟩ := gd hq
    refine J_laload (pc := 138) X ly124 g16 dX11_put_138 ?_
    refine J_iload_n (pc := 139) X (j := 3) (i := 2) rfl rfl dX11_put_139 ?_
    obtain ⟨v18, h17, hc, hq⟩ := bnd_e hq
    refine J_callV (pc := 140) (as := [.inr (.inl (h.2.1 124 ((x4 + x5).toNatClampNeg))), .inl x2]) (st := []) (st2 := [.inr (.inl v18)]) (r1 := (some (.inr (.inl v18)), h17)) (h2 := h17) (ky := 2) X dX11_put_140 ca_X10_stepped ci_X10_stepped cs_X10_stepped ml_11_72 (by decide) (isO_lay g15) rfl rfl (m_X10_stepped _ _ _ _ _ (isO_lay g15) hc) rfl rfl (Nat.le_of_ble_eq_true rfl) rfl rfl ?_
    refine J_sub [1, 2, 3, 4, 5, 6] rfl ?_
    exact tB_X11_put_143 X _ _ _ _ _ _ _ _ _ _ _ hk199 hk207 hself hq
  · have hq := ite_f hq c13
    refine J_aload_n (pc := 112) X (j := 1) (i := 0) rfl rfl dX11_put_112 ?_
    refine J_getF (pc := 113) X (b := 124) ly123 fl_11_9 rfl dX11_put_113 ?_
    refine J_iload (pc := 116) X (j := 5) rfl dX11_put_116 ?_
    refine J_iload (pc := 118) X (j := 6) rfl dX11_put_118 ?_
    refine J_iadd (pc := 120) X dX11_put_120 ?_
    obtain ⟨g29, hq⟩ := gd hq
    refine J_laload (pc := 121) X ly124 g29 dX11_put_121 ?_
    refine J_goto (pc := 122) X (tgt := 143) dX11_put_122 rfl ?_
    refine J_sub [1, 2, 3, 4, 5, 6] rfl ?_
    exact tB_X11_put_143 X _ _ _ _ _ _ _ _ _ _ _ hk199 hk207 hself hq
theorem tF_X11_put_65 {κ : Kx} (X : OK κ cX11_put 9 (some .boolean) "StruckWords$Walk" 4) (x1 : Int32) (x2 : Int32) (x3 : Int32) (x4 : Int32) (k199 : Hp → Option (Int32 × Hp)) (k207 : Hp → Option (Int32 × Hp)) (self : Int32 → Hp → Option (Int32 × Hp)) (x5 : Int32) (h : Hp) (q : (Int32 × Hp)) (hk199 : ∀ (h : Hp) (q : (Int32 × Hp)), k199 h = some q → J κ 199 [] [] h (some (.inl q.1), q.2)) (hk207 : ∀ (h : Hp) (q : (Int32 × Hp)), k207 h = some q → J κ 207 [] [] h (some (.inl q.1), q.2)) (hself : ∀ (x5 : Int32) (h : Hp) (q : (Int32 × Hp)), self x5 h = some q → J κ 65 [(0, .inr (.inr 123)), (1, .inl x1), (2, .inl x2), (3, .inl x3), (4, .inl x4), (5, .inl x5)] [] h (some (.inl q.1), q.2)) (hq : F_X11_put_65 x1 x2 x3 x4 k199 k207 self x5 h = some q) : J κ 65 [(0, .inr (.inr 123)), (1, .inl x1), (2, .inl x2), (3, .inl x3), (4, .inl x4), (5, .inl x5)] [] h (some (.inl q.1), q.2) := by
  delta F_X11_put_65 at hq
  refine J_iload (pc := 65) X (j := 5) rfl dX11_put_65 ?_
  refine J_aload_n (pc := 67) X (j := 0) (i := 0) rfl rfl dX11_put_67 ?_
  refine J_getI (pc := 68) X ly123 fl_11_56 dX11_put_68 ?_
  refine J_icmp_gt (pc := 71) (tgt := 207) X dX11_put_71 rfl (fun c8 => ?_) (fun c8 => ?_)
  · have hq := ite_t hq c8
    refine J_sub [] rfl ?_
    exact hk207 _ _ hq
  · have hq := ite_f hq c8
    refine J_aload_n (pc := 74) X (j := 0) (i := 0) rfl rfl dX11_put_74 ?_
    refine J_getF (pc := 75) X (b := 127) ly123 fl_11_22 rfl dX11_put_75 ?_
    refine J_iload (pc := 78) X (j := 5) rfl dX11_put_78 ?_
    obtain ⟨g9, hq⟩ := gd hq
    refine J_iaload (pc := 80) X ly127 g9 dX11_put_80 ?_
    refine J_bipush (pc := 81) X (v := 9) (by decide) dX11_put_81 ?_
    refine J_icmp_eq (pc := 83) (tgt := 201) X dX11_put_83 rfl (fun c10 => ?_) (fun c10 => ?_)
    · have hq := ite_t hq c10
      refine J_iinc (pc := 201) X (j := 5) (v := 1) (L' := [(5, .inl (x5 + 1)), (0, .inr (.inr 123)), (1, .inl x1), (2, .inl x2), (3, .inl x3), (4, .inl x4)]) rfl (by decide) (by decide) rfl dX11_put_201 ?_
      refine J_goto (pc := 204) X (tgt := 65) dX11_put_204 rfl ?_
      refine J_sub [1, 2, 3, 4, 5, 0] rfl ?_
      exact hself _ _ _ hq
    · have hq := ite_f hq c10
      refine J_aload_n (pc := 86) X (j := 0) (i := 0) rfl rfl dX11_put_86 ?_
      refine J_getF (pc := 87) X (b := 126) ly123 fl_11_19 rfl dX11_put_87 ?_
      refine J_iload_n (pc := 90) X (j := 1) (i := 1) rfl rfl dX11_put_90 ?_
      obtain ⟨g11, hq⟩ := gd hq
      refine J_iaload (pc := 91) X ly126 g11 dX11_put_91 ?_
      refine J_iload (pc := 92) X (j := 5) rfl dX11_put_92 ?_
      refine J_ishr (pc := 94) X dX11_put_94 ?_
      refine J_iconst (pc := 95) X (v := 1) (by decide) dX11_put_95 ?_
      refine J_iand (pc := 96) X dX11_put_96 ?_
      refine J_if_eq (pc := 97) (tgt := 104) X dX11_put_97 rfl (fun c12 => ?_) (fun c12 => ?_)
      · have hq := ite_t hq c12
        refine J_iconst (pc := 104) X (v := 0) (by decide) dX11_put_104 ?_
        exact tB_X11_put_105 X _ _ _ _ _ _ _ _ _ _ _ hk199 hk207 hself hq
      · have hq := ite_f hq c12
        refine J_iconst (pc := 100) X (v := 1) (by decide) dX11_put_100 ?_
        refine J_goto (pc := 101) X (tgt := 105) dX11_put_101 rfl ?_
        exact tB_X11_put_105 X _ _ _ _ _ _ _ _ _ _ _ hk199 hk207 hself hq
theorem tL_X11_put_65 {κ : Kx} (X : OK κ cX11_put 9 (some .boolean) "StruckWords$Walk" 4) (x1 : Int32) (x2 : Int32) (x3 : Int32) (x4 : Int32) (k199 : Hp → Option (Int32 × Hp)) (k207 : Hp → Option (Int32 × Hp)) (N : Nat) (x5 : Int32) (h : Hp) (q : (Int32 × Hp)) (hk199 : ∀ (h : Hp) (q : (Int32 × Hp)), k199 h = some q → J κ 199 [] [] h (some (.inl q.1), q.2)) (hk207 : ∀ (h : Hp) (q : (Int32 × Hp)), k207 h = some q → J κ 207 [] [] h (some (.inl q.1), q.2)) (hq : itr2 (F_X11_put_65 x1 x2 x3 x4 k199 k207) N x5 h = some q) : J κ 65 [(0, .inr (.inr 123)), (1, .inl x1), (2, .inl x2), (3, .inl x3), (4, .inl x4), (5, .inl x5)] [] h (some (.inl q.1), q.2) :=
  itr2_ind (fun self hs x5 h q hq => tF_X11_put_65 X x1 x2 x3 x4 k199 k207 self x5 h q hk199 hk207 hs hq) N x5 h q hq
theorem tB_X11_put_55 {κ : Kx} (X : OK κ cX11_put 9 (some .boolean) "StruckWords$Walk" 4) (x1 : Int32) (x2 : Int32) (t0 : Int32) (h : Hp) (q : (Int32 × Hp)) (hq : B_X11_put_55 x1 x2 t0 h = some q) : J κ 55 [(0, .inr (.inr 123)), (1, .inl x1), (2, .inl x2)] [.inl t0] h (some (.inl q.1), q.2) := by
  delta B_X11_put_55 at hq
  refine J_istore_n (pc := 55) X (L' := [(3, .inl t0), (0, .inr (.inr 123)), (1, .inl x1), (2, .inl x2)]) (i := 3) rfl (by decide) rfl dX11_put_55 ?_
  refine J_iload_n (pc := 56) X (j := 2) (i := 1) rfl rfl dX11_put_56 ?_
  refine J_bipush (pc := 57) X (v := 6) (by decide) dX11_put_57 ?_
  refine J_imul (pc := 59) X dX11_put_59 ?_
  refine J_ltI hq (fun v7 hq => ?_)
  refine J_istore (pc := 60) X (L' := [(4, .inl v7), (3, .inl t0), (0, .inr (.inr 123)), (1, .inl x1), (2, .inl x2)]) (by decide) rfl dX11_put_60 ?_
  refine J_iconst (pc := 62) X (v := 0) (by decide) dX11_put_62 ?_
  refine J_istore (pc := 63) X (L' := [(5, .inl 0), (4, .inl v7), (3, .inl t0), (0, .inr (.inr 123)), (1, .inl x1), (2, .inl x2)]) (by decide) rfl dX11_put_63 ?_
  refine J_sub [3, 4, 5, 2, 1, 0] rfl ?_
  refine tL_X11_put_65 X _ _ _ _ _ _ N0 _ _ _ ?_ ?_ hq
  · intro h30 q hq
    refine J_iconst (pc := 199) X (v := 0) (by decide) dX11_put_199 ?_
    obtain rfl := Option.some.inj hq
    exact J_zret (pc := 200) X (by decide) dX11_put_200
  · intro h31 q hq
    refine J_iconst (pc := 207) X (v := 1) (by decide) dX11_put_207 ?_
    obtain rfl := Option.some.inj hq
    exact J_zret (pc := 208) X (by decide) dX11_put_208
theorem tB_X11_put_40 {κ : Kx} (X : OK κ cX11_put 9 (some .boolean) "StruckWords$Walk" 4) (x1 : Int32) (x2 : Int32) (h : Hp) (q : (Int32 × Hp)) (hq : B_X11_put_40 x1 x2 h = some q) : J κ 40 [(0, .inr (.inr 123)), (1, .inl x1), (2, .inl x2)] [] h (some (.inl q.1), q.2) := by
  delta B_X11_put_40 at hq
  refine J_iload_n (pc := 40) X (j := 1) (i := 1) rfl rfl dX11_put_40 ?_
  refine J_iconst (pc := 41) X (v := 1) (by decide) dX11_put_41 ?_
  refine J_iadd (pc := 42) X dX11_put_42 ?_
  refine J_aload_n (pc := 43) X (j := 0) (i := 0) rfl rfl dX11_put_43 ?_
  refine J_getI (pc := 44) X ly123 fl_11_34 dX11_put_44 ?_
  refine J_icmp_ne (pc := 47) (tgt := 54) X dX11_put_47 rfl (fun c6 => ?_) (fun c6 => ?_)
  · have hq := ite_f hq c6
    refine J_iconst (pc := 54) X (v := 0) (by decide) dX11_put_54 ?_
    exact tB_X11_put_55 X _ _ _ _ _ hq
  · have hq := ite_t hq c6
    refine J_iconst (pc := 50) X (v := 1) (by decide) dX11_put_50 ?_
    refine J_goto (pc := 51) X (tgt := 55) dX11_put_51 rfl ?_
    exact tB_X11_put_55 X _ _ _ _ _ hq
theorem tf_X11_put {κ : Kx} (X : OK κ cX11_put 9 (some .boolean) "StruckWords$Walk" 4) (x1 : Int32) (x2 : Int32) (h : Hp) (q : (Int32 × Hp)) (hq : f_X11_put x1 x2 h = some q) : J κ 0 [(0, .inr (.inr 123)), (1, .inl x1), (2, .inl x2)] [] h (some (.inl q.1), q.2) := by
  delta f_X11_put at hq
  refine J_iload_n (pc := 0) X (j := 1) (i := 1) rfl rfl dX11_put_0 ?_
  refine J_if_lt (pc := 1) (tgt := 10) X dX11_put_1 rfl (fun c1 => ?_) (fun c1 => ?_)
  · have hq := ite_t hq c1
    refine J_iconst (pc := 10) X (v := 0) (by decide) dX11_put_10 ?_
    obtain rfl := Option.some.inj hq
    exact J_zret (pc := 11) X (by decide) dX11_put_11
  · have hq := ite_f hq c1
    refine J_iload_n (pc := 4) X (j := 1) (i := 1) rfl rfl dX11_put_4 ?_
    refine J_bipush (pc := 5) X (v := 13) (by decide) dX11_put_5 ?_
    refine J_icmp_lt (pc := 7) (tgt := 12) X dX11_put_7 rfl (fun c2 => ?_) (fun c2 => ?_)
    · have hq := ite_t hq c2
      refine J_aload_n (pc := 12) X (j := 0) (i := 0) rfl rfl dX11_put_12 ?_
      refine J_getF (pc := 13) X (b := 128) ly123 fl_11_30 rfl dX11_put_13 ?_
      refine J_getF (pc := 16) X (b := 129) ly128 fl_11_66 rfl dX11_put_16 ?_
      refine J_iload_n (pc := 19) X (j := 1) (i := 1) rfl rfl dX11_put_19 ?_
      refine J_iload_n (pc := 20) X (j := 2) (i := 2) rfl rfl dX11_put_20 ?_
      obtain ⟨g3, hq⟩ := gd hq
      refine J_iastore (pc := 21) X ly129 g3 dX11_put_21 ?_
      refine J_ltH hq (fun h4 hq => ?_)
      refine J_aload_n (pc := 22) X (j := 0) (i := 0) rfl rfl dX11_put_22 ?_
      refine J_getI (pc := 23) X ly123 fl_11_38 dX11_put_23 ?_
      refine J_if_lt (pc := 26) (tgt := 40) X dX11_put_26 rfl (fun c5 => ?_) (fun c5 => ?_)
      · have hq := ite_t hq c5
        exact tB_X11_put_40 X _ _ _ _ hq
      · have hq := ite_f hq c5
        refine J_aload_n (pc := 29) X (j := 0) (i := 0) rfl rfl dX11_put_29 ?_
        refine J_iload_n (pc := 30) X (j := 1) (i := 1) rfl rfl dX11_put_30 ?_
        refine J_iload_n (pc := 31) X (j := 2) (i := 2) rfl rfl dX11_put_31 ?_
        obtain ⟨v33, h32, hc, hq⟩ := bnd_e hq
        refine J_callV (pc := 32) (as := [.inl x1, .inl x2]) (st := []) (st2 := [.inl v33]) (r1 := (some (.inl v33), h32)) (h2 := h32) (ky := 1) X dX11_put_32 ca_X11_beatsFit ci_X11_beatsFit cs_X11_beatsFit ml_11_69 (by decide) ly123 rfl rfl (m_X11_beatsFit _ _ _ _ hc) rfl rfl (Nat.le_of_ble_eq_true rfl) rfl rfl ?_
        refine J_if_ne (pc := 35) (tgt := 40) X dX11_put_35 rfl (fun c34 => ?_) (fun c34 => ?_)
        · have hq := ite_f hq c34
          exact tB_X11_put_40 X _ _ _ _ hq
        · have hq := ite_t hq c34
          refine J_iconst (pc := 38) X (v := 0) (by decide) dX11_put_38 ?_
          obtain rfl := Option.some.inj hq
          exact J_zret (pc := 39) X (by decide) dX11_put_39
    · have hq := ite_f hq c2
      refine J_iconst (pc := 10) X (v := 0) (by decide) dX11_put_10 ?_
      obtain rfl := Option.some.inj hq
      exact J_zret (pc := 11) X (by decide) dX11_put_11
theorem m_X11_put (x1 : Int32) (x2 : Int32) (h : Hp) (q : (Int32 × Hp)) (hq : f_X11_put x1 x2 h = some q) : ∀ l w, CT l w yX11_put cX11_put 9 (some .boolean) 4 [.inr (.inr 123), .inl x1, .inl x2] h (some (.inl q.1), q.2) :=
  CT_of (L0 := [(0, .inr (.inr 123)), (1, .inl x1), (2, .inl x2)]) (by decide) rfl (Nat.le_of_ble_eq_true rfl) (fun κ X => tf_X11_put X x1 x2 h q  hq)
theorem tF_X2_seek_15 {κ : Kx} {k0 : Nat} (X : OK κ cX2_seek 3 (some .boolean) "StruckWords$Finder" (k0 + 1)) (rec : Int32 → Hp → Option (Int32 × Hp)) (x1 : Int32) (k48 : Hp → Option (Int32 × Hp)) (k56 : Hp → Option (Int32 × Hp)) (self : Int32 → Hp → Option (Int32 × Hp)) (x2 : Int32) (h : Hp) (q : (Int32 × Hp)) (hk0 : 5 ≤ k0) (hrec : ∀ (x1 : Int32) (h : Hp) (q : (Int32 × Hp)) , rec x1 h = some q → ∀ l w, CT l w yX2_seek cX2_seek 3 (some .boolean) k0 [.inr (.inr 122), .inl x1] h (some (.inl q.1), q.2)) (hk48 : ∀ (h : Hp) (q : (Int32 × Hp)), k48 h = some q → J κ 48 [] [] h (some (.inl q.1), q.2)) (hk56 : ∀ (h : Hp) (q : (Int32 × Hp)), k56 h = some q → J κ 56 [] [] h (some (.inl q.1), q.2)) (hself : ∀ (x2 : Int32) (h : Hp) (q : (Int32 × Hp)), self x2 h = some q → J κ 15 [(0, .inr (.inr 122)), (1, .inl x1), (2, .inl x2)] [] h (some (.inl q.1), q.2)) (hq : F_X2_seek_15 rec x1 k48 k56 self x2 h = some q) : J κ 15 [(0, .inr (.inr 122)), (1, .inl x1), (2, .inl x2)] [] h (some (.inl q.1), q.2) := by
  delta F_X2_seek_15 at hq
  refine J_iload_n (pc := 15) X (j := 2) (i := 2) rfl rfl dX2_seek_15 ?_
  refine J_aload_n (pc := 16) X (j := 0) (i := 0) rfl rfl dX2_seek_16 ?_
  refine J_getR (pc := 17) X ly122 fl_2_59 dX2_seek_17 ?_
  refine J_ltR hq (fun r2 hq => ?_)
  obtain ⟨g3, hq⟩ := gd hq
  refine J_getI (pc := 20) X (isO_lay g3) fl_2_77 dX2_seek_20 ?_
  refine J_icmp_ge (pc := 23) (tgt := 56) X dX2_seek_23 rfl (fun c4 => ?_) (fun c4 => ?_)
  · have hq := ite_t hq c4
    refine J_sub [] rfl ?_
    exact hk56 _ _ hq
  · have hq := ite_f hq c4
    refine J_aload_n (pc := 26) X (j := 0) (i := 0) rfl rfl dX2_seek_26 ?_
    refine J_getF (pc := 27) X (b := 123) ly122 fl_2_12 rfl dX2_seek_27 ?_
    refine J_iload_n (pc := 30) X (j := 1) (i := 1) rfl rfl dX2_seek_30 ?_
    refine J_iload_n (pc := 31) X (j := 2) (i := 2) rfl rfl dX2_seek_31 ?_
    obtain ⟨v6, h5, hc, hq⟩ := bnd_e hq
    refine J_callV (pc := 32) (as := [.inl x1, .inl x2]) (st := []) (st2 := [.inl v6]) (r1 := (some (.inl v6), h5)) (h2 := h5) (ky := 4) X dX2_seek_32 ca_X11_put ci_X11_put cs_X11_put ml_2_82 (by omega) ly123 rfl rfl (m_X11_put _ _ _ _ hc) rfl rfl (Nat.le_of_ble_eq_true rfl) rfl rfl ?_
    refine J_if_eq (pc := 35) (tgt := 50) X dX2_seek_35 rfl (fun c7 => ?_) (fun c7 => ?_)
    · have hq := ite_t hq c7
      refine J_iinc (pc := 50) X (j := 2) (v := 1) (L' := [(2, .inl (x2 + 1)), (0, .inr (.inr 122)), (1, .inl x1)]) rfl (by decide) (by decide) rfl dX2_seek_50 ?_
      refine J_goto (pc := 53) X (tgt := 15) dX2_seek_53 rfl ?_
      refine J_sub [1, 2, 0] rfl ?_
      exact hself _ _ _ hq
    · have hq := ite_f hq c7
      refine J_aload_n (pc := 38) X (j := 0) (i := 0) rfl rfl dX2_seek_38 ?_
      refine J_iload_n (pc := 39) X (j := 1) (i := 1) rfl rfl dX2_seek_39 ?_
      refine J_iconst (pc := 40) X (v := 1) (by decide) dX2_seek_40 ?_
      refine J_iadd (pc := 41) X dX2_seek_41 ?_
      obtain ⟨v9, h8, hc, hq⟩ := bnd_e hq
      refine J_callV (pc := 42) (as := [.inl (x1 + 1)]) (st := []) (st2 := [.inl v9]) (r1 := (some (.inl v9), h8)) (h2 := h8) (ky := k0) X dX2_seek_42 ca_X2_seek ci_X2_seek cs_X2_seek ml_2_70 (by omega) ly122 rfl rfl (hrec _ _ _ hc) rfl rfl (Nat.le_of_ble_eq_true rfl) rfl rfl ?_
      refine J_if_eq (pc := 45) (tgt := 50) X dX2_seek_45 rfl (fun c10 => ?_) (fun c10 => ?_)
      · have hq := ite_t hq c10
        refine J_iinc (pc := 50) X (j := 2) (v := 1) (L' := [(2, .inl (x2 + 1)), (0, .inr (.inr 122)), (1, .inl x1)]) rfl (by decide) (by decide) rfl dX2_seek_50 ?_
        refine J_goto (pc := 53) X (tgt := 15) dX2_seek_53 rfl ?_
        refine J_sub [1, 2, 0] rfl ?_
        exact hself _ _ _ hq
      · have hq := ite_f hq c10
        refine J_sub [] rfl ?_
        exact hk48 _ _ hq
theorem tL_X2_seek_15 {κ : Kx} {k0 : Nat} (X : OK κ cX2_seek 3 (some .boolean) "StruckWords$Finder" (k0 + 1)) (rec : Int32 → Hp → Option (Int32 × Hp)) (x1 : Int32) (k48 : Hp → Option (Int32 × Hp)) (k56 : Hp → Option (Int32 × Hp)) (N : Nat) (x2 : Int32) (h : Hp) (q : (Int32 × Hp)) (hk0 : 5 ≤ k0) (hrec : ∀ (x1 : Int32) (h : Hp) (q : (Int32 × Hp)) , rec x1 h = some q → ∀ l w, CT l w yX2_seek cX2_seek 3 (some .boolean) k0 [.inr (.inr 122), .inl x1] h (some (.inl q.1), q.2)) (hk48 : ∀ (h : Hp) (q : (Int32 × Hp)), k48 h = some q → J κ 48 [] [] h (some (.inl q.1), q.2)) (hk56 : ∀ (h : Hp) (q : (Int32 × Hp)), k56 h = some q → J κ 56 [] [] h (some (.inl q.1), q.2)) (hq : itr2 (F_X2_seek_15 rec x1 k48 k56) N x2 h = some q) : J κ 15 [(0, .inr (.inr 122)), (1, .inl x1), (2, .inl x2)] [] h (some (.inl q.1), q.2) :=
  itr2_ind (fun self hs x2 h q hq => tF_X2_seek_15 X rec x1 k48 k56 self x2 h q hk0 hrec hk48 hk56 hs hq) N x2 h q hq
theorem tE_X2_seek {κ : Kx} {k0 : Nat} (X : OK κ cX2_seek 3 (some .boolean) "StruckWords$Finder" (k0 + 1)) (rec : Int32 → Hp → Option (Int32 × Hp)) (x1 : Int32) (h : Hp) (q : (Int32 × Hp)) (hk0 : 5 ≤ k0) (hrec : ∀ (x1 : Int32) (h : Hp) (q : (Int32 × Hp)) , rec x1 h = some q → ∀ l w, CT l w yX2_seek cX2_seek 3 (some .boolean) k0 [.inr (.inr 122), .inl x1] h (some (.inl q.1), q.2)) (hq : E_X2_seek rec x1 h = some q) : J κ 0 [(0, .inr (.inr 122)), (1, .inl x1)] [] h (some (.inl q.1), q.2) := by
  delta E_X2_seek at hq
  refine J_iload_n (pc := 0) X (j := 1) (i := 1) rfl rfl dX2_seek_0 ?_
  refine J_aload_n (pc := 1) X (j := 0) (i := 0) rfl rfl dX2_seek_1 ?_
  refine J_getF (pc := 2) X (b := 123) ly122 fl_2_12 rfl dX2_seek_2 ?_
  refine J_getI (pc := 5) X ly123 fl_2_67 dX2_seek_5 ?_
  refine J_icmp_lt (pc := 8) (tgt := 13) X dX2_seek_8 rfl (fun c1 => ?_) (fun c1 => ?_)
  · have hq := ite_t hq c1
    refine J_iconst (pc := 13) X (v := 0) (by decide) dX2_seek_13 ?_
    refine J_istore_n (pc := 14) X (L' := [(2, .inl 0), (0, .inr (.inr 122)), (1, .inl x1)]) (i := 2) rfl (by decide) rfl dX2_seek_14 ?_
    refine J_sub [1, 2, 0] rfl ?_
    refine tL_X2_seek_15 X _ _ _ _ N0 _ _ _ hk0 hrec ?_ ?_ hq
    · intro h11 q hq
      refine J_iconst (pc := 48) X (v := 1) (by decide) dX2_seek_48 ?_
      obtain rfl := Option.some.inj hq
      exact J_zret (pc := 49) X (by decide) dX2_seek_49
    · intro h12 q hq
      refine J_iconst (pc := 56) X (v := 0) (by decide) dX2_seek_56 ?_
      obtain rfl := Option.some.inj hq
      exact J_zret (pc := 57) X (by decide) dX2_seek_57
  · have hq := ite_f hq c1
    refine J_iconst (pc := 11) X (v := 1) (by decide) dX2_seek_11 ?_
    obtain rfl := Option.some.inj hq
    exact J_zret (pc := 12) X (by decide) dX2_seek_12
theorem mm_X2_seek : ∀ (n : Nat) (x1 : Int32) (h : Hp) (q : (Int32 × Hp)) , itr2 E_X2_seek n x1 h = some q → ∀ l w, CT l w yX2_seek cX2_seek 3 (some .boolean) (5 + n) [.inr (.inr 122), .inl x1] h (some (.inl q.1), q.2) := by
  intro n
  induction n with
  | zero => intro x1 h q  hq; cases hq
  | succ n ih =>
    intro x1 h q  hq
    exact CT_of (L0 := [(0, .inr (.inr 122)), (1, .inl x1)]) (by decide) rfl (Nat.le_of_ble_eq_true rfl) (fun κ X => tE_X2_seek (k0 := 5 + n) X (itr2 E_X2_seek n) x1 h q (Nat.le_add_right _ _) ih  hq)
theorem m_X2_seek (x1 : Int32) (h : Hp) (q : (Int32 × Hp)) (hq : f_X2_seek x1 h = some q) : ∀ l w, CT l w yX2_seek cX2_seek 3 (some .boolean) 405 [.inr (.inr 122), .inl x1] h (some (.inl q.1), q.2) := mm_X2_seek 400 x1 h q  hq
theorem tF_X2_seekShortest_17 {κ : Kx} (X : OK κ cX2_seekShortest 5 (some .int) "StruckWords$Finder" 406) (x3 : Int32) (k40 : Int32 → Hp → Option (Int32 × Hp)) (k61 : Hp → Option (Int32 × Hp)) (self : Int32 → Hp → Option (Int32 × Hp)) (x4 : Int32) (h : Hp) (q : (Int32 × Hp)) (hk40 : ∀ (x4 : Int32) (h : Hp) (q : (Int32 × Hp)), k40 x4 h = some q → J κ 40 [(0, .inr (.inr 122)), (4, .inl x4)] [] h (some (.inl q.1), q.2)) (hk61 : ∀ (h : Hp) (q : (Int32 × Hp)), k61 h = some q → J κ 61 [] [] h (some (.inl q.1), q.2)) (hself : ∀ (x4 : Int32) (h : Hp) (q : (Int32 × Hp)), self x4 h = some q → J κ 17 [(0, .inr (.inr 122)), (3, .inl x3), (4, .inl x4)] [] h (some (.inl q.1), q.2)) (hq : F_X2_seekShortest_17 x3 k40 k61 self x4 h = some q) : J κ 17 [(0, .inr (.inr 122)), (3, .inl x3), (4, .inl x4)] [] h (some (.inl q.1), q.2) := by
  delta F_X2_seekShortest_17 at hq
  refine J_iload (pc := 17) X (j := 2) rfl dX2_seekShortest_17 ?_
  refine J_iload_n (pc := 19) X (j := 1) (i := 3) rfl rfl dX2_seekShortest_19 ?_
  refine J_icmp_gt (pc := 20) (tgt := 61) X dX2_seekShortest_20 rfl (fun c3 => ?_) (fun c3 => ?_)
  · have hq := ite_t hq c3
    refine J_sub [] rfl ?_
    exact hk61 _ _ hq
  · have hq := ite_f hq c3
    refine J_aload_n (pc := 23) X (j := 0) (i := 0) rfl rfl dX2_seekShortest_23 ?_
    refine J_getF (pc := 24) X (b := 123) ly122 fl_2_12 rfl dX2_seekShortest_24 ?_
    refine J_iload (pc := 27) X (j := 2) rfl dX2_seekShortest_27 ?_
    refine J_putI (pc := 29) X ly123 fp_2_67 dX2_seekShortest_29 ?_
    refine J_ltH hq (fun h4 hq => ?_)
    refine J_aload_n (pc := 32) X (j := 0) (i := 0) rfl rfl dX2_seekShortest_32 ?_
    refine J_iconst (pc := 33) X (v := 0) (by decide) dX2_seekShortest_33 ?_
    obtain ⟨v6, h5, hc, hq⟩ := bnd_e hq
    refine J_callV (pc := 34) (as := [.inl 0]) (st := []) (st2 := [.inl v6]) (r1 := (some (.inl v6), h5)) (h2 := h5) (ky := 405) X dX2_seekShortest_34 ca_X2_seek ci_X2_seek cs_X2_seek ml_2_70 (by decide) ly122 rfl rfl (m_X2_seek _ _ _ hc) rfl rfl (Nat.le_of_ble_eq_true rfl) rfl rfl ?_
    refine J_if_eq (pc := 37) (tgt := 55) X dX2_seekShortest_37 rfl (fun c7 => ?_) (fun c7 => ?_)
    · have hq := ite_t hq c7
      refine J_iinc (pc := 55) X (j := 2) (v := 1) (L' := [(4, .inl (x4 + 1)), (0, .inr (.inr 122)), (3, .inl x3)]) rfl (by decide) (by decide) rfl dX2_seekShortest_55 ?_
      refine J_goto (pc := 58) X (tgt := 17) dX2_seekShortest_58 rfl ?_
      refine J_sub [1, 2, 0] rfl ?_
      exact hself _ _ _ hq
    · have hq := ite_f hq c7
      refine J_sub [0, 2] rfl ?_
      exact hk40 _ _ _ hq
theorem tL_X2_seekShortest_17 {κ : Kx} (X : OK κ cX2_seekShortest 5 (some .int) "StruckWords$Finder" 406) (x3 : Int32) (k40 : Int32 → Hp → Option (Int32 × Hp)) (k61 : Hp → Option (Int32 × Hp)) (N : Nat) (x4 : Int32) (h : Hp) (q : (Int32 × Hp)) (hk40 : ∀ (x4 : Int32) (h : Hp) (q : (Int32 × Hp)), k40 x4 h = some q → J κ 40 [(0, .inr (.inr 122)), (4, .inl x4)] [] h (some (.inl q.1), q.2)) (hk61 : ∀ (h : Hp) (q : (Int32 × Hp)), k61 h = some q → J κ 61 [] [] h (some (.inl q.1), q.2)) (hq : itr2 (F_X2_seekShortest_17 x3 k40 k61) N x4 h = some q) : J κ 17 [(0, .inr (.inr 122)), (3, .inl x3), (4, .inl x4)] [] h (some (.inl q.1), q.2) :=
  itr2_ind (fun self hs x4 h q hq => tF_X2_seekShortest_17 X x3 k40 k61 self x4 h q hk40 hk61 hs hq) N x4 h q hq
theorem tf_X2_seekShortest {κ : Kx} (X : OK κ cX2_seekShortest 5 (some .int) "StruckWords$Finder" 406) (x1 : Nat) (x2 : Nat) (x3 : Int32) (h : Hp) (q : (Int32 × Hp)) (lx1 : lay x1 = some (.inl 8)) (lx2 : lay x2 = some (.inl 0)) (hq : f_X2_seekShortest x1 x2 x3 h = some q) : J κ 0 [(0, .inr (.inr 122)), (1, .inr (.inr x1)), (2, .inr (.inr x2)), (3, .inl x3)] [] h (some (.inl q.1), q.2) := by
  delta f_X2_seekShortest at hq
  refine J_aload_n (pc := 0) X (j := 0) (i := 0) rfl rfl dX2_seekShortest_0 ?_
  refine J_aload_n (pc := 1) X (j := 1) (i := 1) rfl rfl dX2_seekShortest_1 ?_
  refine J_putR (pc := 2) X ly122 fp_2_59 dX2_seekShortest_2 ?_
  refine J_ltH hq (fun h1 hq => ?_)
  refine J_aload_n (pc := 5) X (j := 0) (i := 0) rfl rfl dX2_seekShortest_5 ?_
  refine J_getF (pc := 6) X (b := 123) ly122 fl_2_12 rfl dX2_seekShortest_6 ?_
  refine J_aload_n (pc := 9) X (j := 1) (i := 1) rfl rfl dX2_seekShortest_9 ?_
  refine J_aload_n (pc := 10) X (j := 2) (i := 2) rfl rfl dX2_seekShortest_10 ?_
  obtain ⟨h2, hc, hq⟩ := bnv_e hq
  refine J_callV (pc := 11) (as := [.inr (.inr x1), .inr (.inr x2)]) (st := []) (st2 := []) (r1 := (none, h2)) (h2 := h2) (ky := 2) X dX2_seekShortest_11 ca_X11_begin ci_X11_begin cs_X11_begin ml_2_63 (by decide) ly123 rfl rfl (m_X11_begin _ _ _ _ lx1 lx2 hc) rfl rfl (Nat.le_of_ble_eq_true rfl) rfl rfl ?_
  refine J_iconst (pc := 14) X (v := 1) (by decide) dX2_seekShortest_14 ?_
  refine J_istore (pc := 15) X (L' := [(4, .inl 1), (0, .inr (.inr 122)), (1, .inr (.inr x1)), (2, .inr (.inr x2)), (3, .inl x3)]) (by decide) rfl dX2_seekShortest_15 ?_
  refine J_sub [1, 4, 0] rfl ?_
  refine tL_X2_seekShortest_17 X _ _ _ N0 _ _ _ ?_ ?_ hq
  · intro v9 h8 q hq
    refine J_aload_n (pc := 40) X (j := 0) (i := 0) rfl rfl dX2_seekShortest_40 ?_
    refine J_getF (pc := 41) X (b := 123) ly122 fl_2_12 rfl dX2_seekShortest_41 ?_
    refine J_getF (pc := 44) X (b := 128) ly123 fl_2_48 rfl dX2_seekShortest_44 ?_
    refine J_iload (pc := 47) X (j := 1) rfl dX2_seekShortest_47 ?_
    refine J_putI (pc := 49) X ly128 fp_2_74 dX2_seekShortest_49 ?_
    refine J_ltH hq (fun h10 hq => ?_)
    refine J_iload (pc := 52) X (j := 1) rfl dX2_seekShortest_52 ?_
    obtain rfl := Option.some.inj hq
    exact J_iret (pc := 54) X dX2_seekShortest_54
  · intro h11 q hq
    refine J_iconst (pc := 61) X (v := (-1)) (by decide) dX2_seekShortest_61 ?_
    obtain rfl := Option.some.inj hq
    exact J_iret (pc := 62) X dX2_seekShortest_62
theorem m_X2_seekShortest (x1 : Nat) (x2 : Nat) (x3 : Int32) (h : Hp) (q : (Int32 × Hp)) (lx1 : lay x1 = some (.inl 8)) (lx2 : lay x2 = some (.inl 0)) (hq : f_X2_seekShortest x1 x2 x3 h = some q) : ∀ l w, CT l w yX2_seekShortest cX2_seekShortest 5 (some .int) 406 [.inr (.inr 122), .inr (.inr x1), .inr (.inr x2), .inl x3] h (some (.inl q.1), q.2) :=
  CT_of (L0 := [(0, .inr (.inr 122)), (1, .inr (.inr x1)), (2, .inr (.inr x2)), (3, .inl x3)]) (by decide) rfl (Nat.le_of_ble_eq_true rfl) (fun κ X => tf_X2_seekShortest X x1 x2 x3 h q lx1 lx2 hq)
theorem tf_X2_seekShortestBy {κ : Kx} (X : OK κ cX2_seekShortestBy 5 (some .int) "StruckWords$Finder" 407) (x1 : Nat) (x2 : Int32) (x3 : Int32) (x4 : Int32) (h : Hp) (q : (Int32 × Hp)) (lx1 : lay x1 = some (.inl 8)) (hq : f_X2_seekShortestBy x1 x2 x3 x4 h = some q) : J κ 0 [(0, .inr (.inr 122)), (1, .inr (.inr x1)), (2, .inl x2), (3, .inl x3), (4, .inl x4)] [] h (some (.inl q.1), q.2) := by
  delta f_X2_seekShortestBy at hq
  refine J_aload_n (pc := 0) X (j := 0) (i := 0) rfl rfl dX2_seekShortestBy_0 ?_
  refine J_getF (pc := 1) X (b := 130) ly122 fl_2_21 rfl dX2_seekShortestBy_1 ?_
  refine J_iload_n (pc := 4) X (j := 2) (i := 2) rfl rfl dX2_seekShortestBy_4 ?_
  refine J_iload_n (pc := 5) X (j := 3) (i := 3) rfl rfl dX2_seekShortestBy_5 ?_
  obtain ⟨h1, hc, hq⟩ := bnv_e hq
  refine J_callV (pc := 6) (as := [.inl x2, .inl x3]) (st := []) (st2 := []) (r1 := (none, h1)) (h2 := h1) (ky := 1) X dX2_seekShortestBy_6 ca_X1_tell ci_X1_tell cs_X1_tell ml_2_51 (by decide) ly130 rfl rfl (m_X1_tell _ _ _ _ _ ly130 hc) rfl rfl (Nat.le_of_ble_eq_true rfl) rfl rfl ?_
  refine J_aload_n (pc := 9) X (j := 0) (i := 0) rfl rfl dX2_seekShortestBy_9 ?_
  refine J_aload_n (pc := 10) X (j := 1) (i := 1) rfl rfl dX2_seekShortestBy_10 ?_
  refine J_aload_n (pc := 11) X (j := 0) (i := 0) rfl rfl dX2_seekShortestBy_11 ?_
  refine J_getF (pc := 12) X (b := 130) ly122 fl_2_21 rfl dX2_seekShortestBy_12 ?_
  refine J_iload (pc := 15) X (j := 4) rfl dX2_seekShortestBy_15 ?_
  obtain ⟨v3, h2, hc, hq⟩ := bnd_e hq
  refine J_callV (pc := 17) (as := [.inr (.inr x1), .inr (.inr 130), .inl x4]) (st := []) (st2 := [.inl v3]) (r1 := (some (.inl v3), h2)) (h2 := h2) (ky := 406) X dX2_seekShortestBy_17 ca_X2_seekShortest ci_X2_seekShortest cs_X2_seekShortest ml_2_55 (by decide) ly122 rfl rfl (m_X2_seekShortest _ _ _ _ _ lx1 ly130 hc) rfl rfl (Nat.le_of_ble_eq_true rfl) rfl rfl ?_
  obtain rfl := Option.some.inj hq
  exact J_iret (pc := 20) X dX2_seekShortestBy_20
theorem m_X2_seekShortestBy (x1 : Nat) (x2 : Int32) (x3 : Int32) (x4 : Int32) (h : Hp) (q : (Int32 × Hp)) (lx1 : lay x1 = some (.inl 8)) (hq : f_X2_seekShortestBy x1 x2 x3 x4 h = some q) : ∀ l w, CT l w yX2_seekShortestBy cX2_seekShortestBy 5 (some .int) 407 [.inr (.inr 122), .inr (.inr x1), .inl x2, .inl x3, .inl x4] h (some (.inl q.1), q.2) :=
  CT_of (L0 := [(0, .inr (.inr 122)), (1, .inr (.inr x1)), (2, .inl x2), (3, .inl x3), (4, .inl x4)]) (by decide) rfl (Nat.le_of_ble_eq_true rfl) (fun κ X => tf_X2_seekShortestBy X x1 x2 x3 x4 h q lx1 hq)
theorem tf_X7_copyFrom {κ : Kx} (X : OK κ cX7_copyFrom 3 (none) "StruckWords$Row" 3) (x0 : Nat) (x1 : Nat) (h : Hp) (q : Hp) (lx0 : lay x0 = some (.inl 5)) (lx1 : lay x1 = some (.inl 5)) (hq : f_X7_copyFrom x0 x1 h = some q) : J κ 0 [(0, .inr (.inr x0)), (1, .inr (.inr x1))] [] h (none, q) := by
  delta f_X7_copyFrom at hq
  refine J_aload_n (pc := 0) X (j := 1) (i := 1) rfl rfl dX7_copyFrom_0 ?_
  refine J_getI (pc := 1) X lx1 fl_7_21 dX7_copyFrom_1 ?_
  refine J_aload_n (pc := 4) X (j := 0) (i := 0) rfl rfl dX7_copyFrom_4 ?_
  refine J_getF (pc := 5) X (b := x0 + 1) lx0 fl_7_15 rfl dX7_copyFrom_5 ?_
  refine J_alen (pc := 8) X (v := Int32.ofNat (aln (x0 + 1))) (ly_5_1 lx0) (by decide) rfl dX7_copyFrom_8 ?_
  refine J_mmin (pc := 9) X ml_7_25 dX7_copyFrom_9 (Nat.le_of_ble_eq_true rfl) ?_
  refine J_ltI hq (fun v1 hq => ?_)
  refine J_istore_n (pc := 12) X (L' := [(2, .inl v1), (0, .inr (.inr x0)), (1, .inr (.inr x1))]) (i := 2) rfl (by decide) rfl dX7_copyFrom_12 ?_
  refine J_aload_n (pc := 13) X (j := 2) (i := 1) rfl rfl dX7_copyFrom_13 ?_
  refine J_getF (pc := 14) X (b := x1 + 1) lx1 fl_7_15 rfl dX7_copyFrom_14 ?_
  refine J_iconst (pc := 17) X (v := 0) (by decide) dX7_copyFrom_17 ?_
  refine J_aload_n (pc := 18) X (j := 1) (i := 0) rfl rfl dX7_copyFrom_18 ?_
  refine J_getF (pc := 19) X (b := x0 + 1) lx0 fl_7_15 rfl dX7_copyFrom_19 ?_
  refine J_iconst (pc := 22) X (v := 0) (by decide) dX7_copyFrom_22 ?_
  refine J_iload_n (pc := 23) X (j := 0) (i := 2) rfl rfl dX7_copyFrom_23 ?_
  obtain ⟨g2, hq⟩ := gd hq
  refine J_copyI (pc := 24) X ml_7_28 (ly_5_1 lx1) (ly_5_1 lx0) g2 dX7_copyFrom_24 (Nat.le_of_ble_eq_true rfl) ?_
  refine J_ltH hq (fun h3 hq => ?_)
  refine J_aload_n (pc := 27) X (j := 1) (i := 0) rfl rfl dX7_copyFrom_27 ?_
  refine J_iload_n (pc := 28) X (j := 0) (i := 2) rfl rfl dX7_copyFrom_28 ?_
  refine J_putI (pc := 29) X lx0 fp_7_21 dX7_copyFrom_29 ?_
  refine J_ltH hq (fun h4 hq => ?_)
  obtain rfl := Option.some.inj hq
  exact J_vret (pc := 32) X dX7_copyFrom_32
theorem m_X7_copyFrom (x0 : Nat) (x1 : Nat) (h : Hp) (q : Hp) (lx0 : lay x0 = some (.inl 5)) (lx1 : lay x1 = some (.inl 5)) (hq : f_X7_copyFrom x0 x1 h = some q) : ∀ l w, CT l w yX7_copyFrom cX7_copyFrom 3 (none) 3 [.inr (.inr x0), .inr (.inr x1)] h (none, q) :=
  CT_of (L0 := [(0, .inr (.inr x0)), (1, .inr (.inr x1))]) (by decide) rfl (Nat.le_of_ble_eq_true rfl) (fun κ X => tf_X7_copyFrom X x0 x1 h q lx0 lx1 hq)
theorem tF_X2_seekCheaper_53 {κ : Kx} {k0 : Nat} (X : OK κ cX2_seekCheaper 4 (none) "StruckWords$Finder" (k0 + 1)) (rec : Int32 → Int32 → Hp → Option Hp) (x1 : Int32) (x2 : Int32) (k100 : Hp → Option Hp) (self : Int32 → Hp → Option Hp) (x3 : Int32) (h : Hp) (q : Hp) (hk0 : 5 ≤ k0) (hrec : ∀ (x1 : Int32) (x2 : Int32) (h : Hp) (q : Hp) , rec x1 x2 h = some q → ∀ l w, CT l w yX2_seekCheaper cX2_seekCheaper 4 (none) k0 [.inr (.inr 122), .inl x1, .inl x2] h (none, q)) (hk100 : ∀ (h : Hp) (q : Hp), k100 h = some q → J κ 100 [] [] h (none, q)) (hself : ∀ (x3 : Int32) (h : Hp) (q : Hp), self x3 h = some q → J κ 53 [(0, .inr (.inr 122)), (1, .inl x1), (2, .inl x2), (3, .inl x3)] [] h (none, q)) (hq : F_X2_seekCheaper_53 rec x1 x2 k100 self x3 h = some q) : J κ 53 [(0, .inr (.inr 122)), (1, .inl x1), (2, .inl x2), (3, .inl x3)] [] h (none, q) := by
  delta F_X2_seekCheaper_53 at hq
  refine J_iload_n (pc := 53) X (j := 3) (i := 3) rfl rfl dX2_seekCheaper_53 ?_
  refine J_aload_n (pc := 54) X (j := 0) (i := 0) rfl rfl dX2_seekCheaper_54 ?_
  refine J_getR (pc := 55) X ly122 fl_2_59 dX2_seekCheaper_55 ?_
  refine J_ltR hq (fun r3 hq => ?_)
  obtain ⟨g4, hq⟩ := gd hq
  refine J_getI (pc := 58) X (isO_lay g4) fl_2_77 dX2_seekCheaper_58 ?_
  refine J_icmp_ge (pc := 61) (tgt := 100) X dX2_seekCheaper_61 rfl (fun c5 => ?_) (fun c5 => ?_)
  · have hq := ite_t hq c5
    refine J_sub [] rfl ?_
    exact hk100 _ _ hq
  · have hq := ite_f hq c5
    refine J_aload_n (pc := 64) X (j := 0) (i := 0) rfl rfl dX2_seekCheaper_64 ?_
    refine J_getF (pc := 65) X (b := 123) ly122 fl_2_12 rfl dX2_seekCheaper_65 ?_
    refine J_iload_n (pc := 68) X (j := 1) (i := 1) rfl rfl dX2_seekCheaper_68 ?_
    refine J_iload_n (pc := 69) X (j := 3) (i := 3) rfl rfl dX2_seekCheaper_69 ?_
    obtain ⟨v7, h6, hc, hq⟩ := bnd_e hq
    refine J_callV (pc := 70) (as := [.inl x1, .inl x3]) (st := []) (st2 := [.inl v7]) (r1 := (some (.inl v7), h6)) (h2 := h6) (ky := 4) X dX2_seekCheaper_70 ca_X11_put ci_X11_put cs_X11_put ml_2_82 (by omega) ly123 rfl rfl (m_X11_put _ _ _ _ hc) rfl rfl (Nat.le_of_ble_eq_true rfl) rfl rfl ?_
    refine J_if_eq (pc := 73) (tgt := 94) X dX2_seekCheaper_73 rfl (fun c8 => ?_) (fun c8 => ?_)
    · have hq := ite_t hq c8
      refine J_iinc (pc := 94) X (j := 3) (v := 1) (L' := [(3, .inl (x3 + 1)), (0, .inr (.inr 122)), (1, .inl x1), (2, .inl x2)]) rfl (by decide) (by decide) rfl dX2_seekCheaper_94 ?_
      refine J_goto (pc := 97) X (tgt := 53) dX2_seekCheaper_97 rfl ?_
      refine J_sub [1, 2, 3, 0] rfl ?_
      exact hself _ _ _ hq
    · have hq := ite_f hq c8
      refine J_aload_n (pc := 76) X (j := 0) (i := 0) rfl rfl dX2_seekCheaper_76 ?_
      refine J_iload_n (pc := 77) X (j := 1) (i := 1) rfl rfl dX2_seekCheaper_77 ?_
      refine J_iconst (pc := 78) X (v := 1) (by decide) dX2_seekCheaper_78 ?_
      refine J_iadd (pc := 79) X dX2_seekCheaper_79 ?_
      refine J_iload_n (pc := 80) X (j := 2) (i := 2) rfl rfl dX2_seekCheaper_80 ?_
      refine J_aload_n (pc := 81) X (j := 0) (i := 0) rfl rfl dX2_seekCheaper_81 ?_
      refine J_getR (pc := 82) X ly122 fl_2_59 dX2_seekCheaper_82 ?_
      refine J_ltR hq (fun r9 hq => ?_)
      obtain ⟨g10, hq⟩ := gd hq
      refine J_getF (pc := 85) X (b := r9 + 7) (isO_lay g10) fl_2_99 rfl dX2_seekCheaper_85 ?_
      refine J_iload_n (pc := 88) X (j := 3) (i := 3) rfl rfl dX2_seekCheaper_88 ?_
      obtain ⟨g11, hq⟩ := gd hq
      refine J_iaload (pc := 89) X (ly_8_7 (isO_lay g10)) g11 dX2_seekCheaper_89 ?_
      refine J_iadd (pc := 90) X dX2_seekCheaper_90 ?_
      obtain ⟨h12, hc, hq⟩ := bnv_e hq
      refine J_callV (pc := 91) (as := [.inl (x1 + 1), .inl (x2 + (h6.1 (r9 + 7) (x3.toNatClampNeg)))]) (st := []) (st2 := []) (r1 := (none, h12)) (h2 := h12) (ky := k0) X dX2_seekCheaper_91 ca_X2_seekCheaper ci_X2_seekCheaper cs_X2_seekCheaper ml_2_92 (by omega) ly122 rfl rfl (hrec _ _ _ _ hc) rfl rfl (Nat.le_of_ble_eq_true rfl) rfl rfl ?_
      refine J_iinc (pc := 94) X (j := 3) (v := 1) (L' := [(3, .inl (x3 + 1)), (0, .inr (.inr 122)), (1, .inl x1), (2, .inl x2)]) rfl (by decide) (by decide) rfl dX2_seekCheaper_94 ?_
      refine J_goto (pc := 97) X (tgt := 53) dX2_seekCheaper_97 rfl ?_
      refine J_sub [1, 2, 3, 0] rfl ?_
      exact hself _ _ _ hq
theorem tL_X2_seekCheaper_53 {κ : Kx} {k0 : Nat} (X : OK κ cX2_seekCheaper 4 (none) "StruckWords$Finder" (k0 + 1)) (rec : Int32 → Int32 → Hp → Option Hp) (x1 : Int32) (x2 : Int32) (k100 : Hp → Option Hp) (N : Nat) (x3 : Int32) (h : Hp) (q : Hp) (hk0 : 5 ≤ k0) (hrec : ∀ (x1 : Int32) (x2 : Int32) (h : Hp) (q : Hp) , rec x1 x2 h = some q → ∀ l w, CT l w yX2_seekCheaper cX2_seekCheaper 4 (none) k0 [.inr (.inr 122), .inl x1, .inl x2] h (none, q)) (hk100 : ∀ (h : Hp) (q : Hp), k100 h = some q → J κ 100 [] [] h (none, q)) (hq : itr2 (F_X2_seekCheaper_53 rec x1 x2 k100) N x3 h = some q) : J κ 53 [(0, .inr (.inr 122)), (1, .inl x1), (2, .inl x2), (3, .inl x3)] [] h (none, q) :=
  itr2_ind (fun self hs x3 h q hq => tF_X2_seekCheaper_53 X rec x1 x2 k100 self x3 h q hk0 hrec hk100 hs hq) N x3 h q hq
theorem tE_X2_seekCheaper {κ : Kx} {k0 : Nat} (X : OK κ cX2_seekCheaper 4 (none) "StruckWords$Finder" (k0 + 1)) (rec : Int32 → Int32 → Hp → Option Hp) (x1 : Int32) (x2 : Int32) (h : Hp) (q : Hp) (hk0 : 5 ≤ k0) (hrec : ∀ (x1 : Int32) (x2 : Int32) (h : Hp) (q : Hp) , rec x1 x2 h = some q → ∀ l w, CT l w yX2_seekCheaper cX2_seekCheaper 4 (none) k0 [.inr (.inr 122), .inl x1, .inl x2] h (none, q)) (hq : E_X2_seekCheaper rec x1 x2 h = some q) : J κ 0 [(0, .inr (.inr 122)), (1, .inl x1), (2, .inl x2)] [] h (none, q) := by
  delta E_X2_seekCheaper at hq
  refine J_iload_n (pc := 0) X (j := 2) (i := 2) rfl rfl dX2_seekCheaper_0 ?_
  refine J_aload_n (pc := 1) X (j := 0) (i := 0) rfl rfl dX2_seekCheaper_1 ?_
  refine J_getI (pc := 2) X ly122 fl_2_89 dX2_seekCheaper_2 ?_
  refine J_icmp_lt (pc := 5) (tgt := 9) X dX2_seekCheaper_5 rfl (fun c1 => ?_) (fun c1 => ?_)
  · have hq := ite_t hq c1
    refine J_iload_n (pc := 9) X (j := 1) (i := 1) rfl rfl dX2_seekCheaper_9 ?_
    refine J_aload_n (pc := 10) X (j := 0) (i := 0) rfl rfl dX2_seekCheaper_10 ?_
    refine J_getF (pc := 11) X (b := 123) ly122 fl_2_12 rfl dX2_seekCheaper_11 ?_
    refine J_getI (pc := 14) X ly123 fl_2_67 dX2_seekCheaper_14 ?_
    refine J_icmp_lt (pc := 17) (tgt := 51) X dX2_seekCheaper_17 rfl (fun c2 => ?_) (fun c2 => ?_)
    · have hq := ite_t hq c2
      refine J_iconst (pc := 51) X (v := 0) (by decide) dX2_seekCheaper_51 ?_
      refine J_istore_n (pc := 52) X (L' := [(3, .inl 0), (0, .inr (.inr 122)), (1, .inl x1), (2, .inl x2)]) (i := 3) rfl (by decide) rfl dX2_seekCheaper_52 ?_
      refine J_sub [1, 2, 3, 0] rfl ?_
      refine tL_X2_seekCheaper_53 X _ _ _ _ N0 _ _ _ hk0 hrec ?_ hq
      · intro h13 q hq
        obtain rfl := Option.some.inj hq
        exact J_vret (pc := 100) X dX2_seekCheaper_100
    · have hq := ite_f hq c2
      refine J_aload_n (pc := 20) X (j := 0) (i := 0) rfl rfl dX2_seekCheaper_20 ?_
      refine J_iload_n (pc := 21) X (j := 2) (i := 2) rfl rfl dX2_seekCheaper_21 ?_
      refine J_putI (pc := 22) X ly122 fp_2_89 dX2_seekCheaper_22 ?_
      refine J_ltH hq (fun h14 hq => ?_)
      refine J_aload_n (pc := 25) X (j := 0) (i := 0) rfl rfl dX2_seekCheaper_25 ?_
      refine J_getF (pc := 26) X (b := 123) ly122 fl_2_12 rfl dX2_seekCheaper_26 ?_
      refine J_getF (pc := 29) X (b := 128) ly123 fl_2_48 rfl dX2_seekCheaper_29 ?_
      refine J_iload_n (pc := 32) X (j := 1) (i := 1) rfl rfl dX2_seekCheaper_32 ?_
      refine J_putI (pc := 33) X ly128 fp_2_74 dX2_seekCheaper_33 ?_
      refine J_ltH hq (fun h15 hq => ?_)
      refine J_aload_n (pc := 36) X (j := 0) (i := 0) rfl rfl dX2_seekCheaper_36 ?_
      refine J_getF (pc := 37) X (b := 131) ly122 fl_2_30 rfl dX2_seekCheaper_37 ?_
      refine J_aload_n (pc := 40) X (j := 0) (i := 0) rfl rfl dX2_seekCheaper_40 ?_
      refine J_getF (pc := 41) X (b := 123) ly122 fl_2_12 rfl dX2_seekCheaper_41 ?_
      refine J_getF (pc := 44) X (b := 128) ly123 fl_2_48 rfl dX2_seekCheaper_44 ?_
      obtain ⟨h16, hc, hq⟩ := bnv_e hq
      refine J_callV (pc := 47) (as := [.inr (.inr 128)]) (st := []) (st2 := []) (r1 := (none, h16)) (h2 := h16) (ky := 3) X dX2_seekCheaper_47 ca_X7_copyFrom ci_X7_copyFrom cs_X7_copyFrom ml_2_95 (by omega) ly131 rfl rfl (m_X7_copyFrom _ _ _ _ ly131 ly128 hc) rfl rfl (Nat.le_of_ble_eq_true rfl) rfl rfl ?_
      obtain rfl := Option.some.inj hq
      exact J_vret (pc := 50) X dX2_seekCheaper_50
  · have hq := ite_f hq c1
    obtain rfl := Option.some.inj hq
    exact J_vret (pc := 8) X dX2_seekCheaper_8
theorem mm_X2_seekCheaper : ∀ (n : Nat) (x1 : Int32) (x2 : Int32) (h : Hp) (q : Hp) , itr3 E_X2_seekCheaper n x1 x2 h = some q → ∀ l w, CT l w yX2_seekCheaper cX2_seekCheaper 4 (none) (5 + n) [.inr (.inr 122), .inl x1, .inl x2] h (none, q) := by
  intro n
  induction n with
  | zero => intro x1 x2 h q  hq; cases hq
  | succ n ih =>
    intro x1 x2 h q  hq
    exact CT_of (L0 := [(0, .inr (.inr 122)), (1, .inl x1), (2, .inl x2)]) (by decide) rfl (Nat.le_of_ble_eq_true rfl) (fun κ X => tE_X2_seekCheaper (k0 := 5 + n) X (itr3 E_X2_seekCheaper n) x1 x2 h q (Nat.le_add_right _ _) ih  hq)
theorem m_X2_seekCheaper (x1 : Int32) (x2 : Int32) (h : Hp) (q : Hp) (hq : f_X2_seekCheaper x1 x2 h = some q) : ∀ l w, CT l w yX2_seekCheaper cX2_seekCheaper 4 (none) 405 [.inr (.inr 122), .inl x1, .inl x2] h (none, q) := mm_X2_seekCheaper 400 x1 x2 h q  hq
theorem tF_X2_seekCheapest_26 {κ : Kx} (X : OK κ cX2_seekCheapest 4 (some .int) "StruckWords$Finder" 406) (x2 : Int32) (k51 : Hp → Option (Int32 × Hp)) (self : Int32 → Hp → Option (Int32 × Hp)) (x3 : Int32) (h : Hp) (q : (Int32 × Hp)) (hk51 : ∀ (h : Hp) (q : (Int32 × Hp)), k51 h = some q → J κ 51 [(0, .inr (.inr 122))] [] h (some (.inl q.1), q.2)) (hself : ∀ (x3 : Int32) (h : Hp) (q : (Int32 × Hp)), self x3 h = some q → J κ 26 [(0, .inr (.inr 122)), (2, .inl x2), (3, .inl x3)] [] h (some (.inl q.1), q.2)) (hq : F_X2_seekCheapest_26 x2 k51 self x3 h = some q) : J κ 26 [(0, .inr (.inr 122)), (2, .inl x2), (3, .inl x3)] [] h (some (.inl q.1), q.2) := by
  delta F_X2_seekCheapest_26 at hq
  refine J_iload_n (pc := 26) X (j := 2) (i := 3) rfl rfl dX2_seekCheapest_26 ?_
  refine J_iload_n (pc := 27) X (j := 1) (i := 2) rfl rfl dX2_seekCheapest_27 ?_
  refine J_icmp_gt (pc := 28) (tgt := 51) X dX2_seekCheapest_28 rfl (fun c4 => ?_) (fun c4 => ?_)
  · have hq := ite_t hq c4
    refine J_sub [0] rfl ?_
    exact hk51 _ _ hq
  · have hq := ite_f hq c4
    refine J_aload_n (pc := 31) X (j := 0) (i := 0) rfl rfl dX2_seekCheapest_31 ?_
    refine J_getF (pc := 32) X (b := 123) ly122 fl_2_12 rfl dX2_seekCheapest_32 ?_
    refine J_iload_n (pc := 35) X (j := 2) (i := 3) rfl rfl dX2_seekCheapest_35 ?_
    refine J_putI (pc := 36) X ly123 fp_2_67 dX2_seekCheapest_36 ?_
    refine J_ltH hq (fun h5 hq => ?_)
    refine J_aload_n (pc := 39) X (j := 0) (i := 0) rfl rfl dX2_seekCheapest_39 ?_
    refine J_iconst (pc := 40) X (v := 0) (by decide) dX2_seekCheapest_40 ?_
    refine J_iconst (pc := 41) X (v := 0) (by decide) dX2_seekCheapest_41 ?_
    obtain ⟨h6, hc, hq⟩ := bnv_e hq
    refine J_callV (pc := 42) (as := [.inl 0, .inl 0]) (st := []) (st2 := []) (r1 := (none, h6)) (h2 := h6) (ky := 405) X dX2_seekCheapest_42 ca_X2_seekCheaper ci_X2_seekCheaper cs_X2_seekCheaper ml_2_92 (by decide) ly122 rfl rfl (m_X2_seekCheaper _ _ _ _ hc) rfl rfl (Nat.le_of_ble_eq_true rfl) rfl rfl ?_
    refine J_iinc (pc := 45) X (j := 2) (v := 1) (L' := [(3, .inl (x3 + 1)), (0, .inr (.inr 122)), (2, .inl x2)]) rfl (by decide) (by decide) rfl dX2_seekCheapest_45 ?_
    refine J_goto (pc := 48) X (tgt := 26) dX2_seekCheapest_48 rfl ?_
    refine J_sub [1, 2, 0] rfl ?_
    exact hself _ _ _ hq
theorem tL_X2_seekCheapest_26 {κ : Kx} (X : OK κ cX2_seekCheapest 4 (some .int) "StruckWords$Finder" 406) (x2 : Int32) (k51 : Hp → Option (Int32 × Hp)) (N : Nat) (x3 : Int32) (h : Hp) (q : (Int32 × Hp)) (hk51 : ∀ (h : Hp) (q : (Int32 × Hp)), k51 h = some q → J κ 51 [(0, .inr (.inr 122))] [] h (some (.inl q.1), q.2)) (hq : itr2 (F_X2_seekCheapest_26 x2 k51) N x3 h = some q) : J κ 26 [(0, .inr (.inr 122)), (2, .inl x2), (3, .inl x3)] [] h (some (.inl q.1), q.2) :=
  itr2_ind (fun self hs x3 h q hq => tF_X2_seekCheapest_26 X x2 k51 self x3 h q hk51 hs hq) N x3 h q hq
theorem tf_X2_seekCheapest {κ : Kx} (X : OK κ cX2_seekCheapest 4 (some .int) "StruckWords$Finder" 406) (x1 : Nat) (x2 : Int32) (h : Hp) (q : (Int32 × Hp)) (lx1 : lay x1 = some (.inl 8)) (hq : f_X2_seekCheapest x1 x2 h = some q) : J κ 0 [(0, .inr (.inr 122)), (1, .inr (.inr x1)), (2, .inl x2)] [] h (some (.inl q.1), q.2) := by
  delta f_X2_seekCheapest at hq
  refine J_aload_n (pc := 0) X (j := 0) (i := 0) rfl rfl dX2_seekCheapest_0 ?_
  refine J_aload_n (pc := 1) X (j := 1) (i := 1) rfl rfl dX2_seekCheapest_1 ?_
  refine J_putR (pc := 2) X ly122 fp_2_59 dX2_seekCheapest_2 ?_
  refine J_ltH hq (fun h1 hq => ?_)
  refine J_aload_n (pc := 5) X (j := 0) (i := 0) rfl rfl dX2_seekCheapest_5 ?_
  refine J_getF (pc := 6) X (b := 123) ly122 fl_2_12 rfl dX2_seekCheapest_6 ?_
  refine J_aload_n (pc := 9) X (j := 1) (i := 1) rfl rfl dX2_seekCheapest_9 ?_
  refine J_aload_n (pc := 10) X (j := 1) (i := 1) rfl rfl dX2_seekCheapest_10 ?_
  refine J_getF (pc := 11) X (b := x1 + 2) lx1 fl_2_86 rfl dX2_seekCheapest_11 ?_
  obtain ⟨h2, hc, hq⟩ := bnv_e hq
  refine J_callV (pc := 14) (as := [.inr (.inr x1), .inr (.inr (x1 + 2))]) (st := []) (st2 := []) (r1 := (none, h2)) (h2 := h2) (ky := 2) X dX2_seekCheapest_14 ca_X11_begin ci_X11_begin cs_X11_begin ml_2_63 (by decide) ly123 rfl rfl (m_X11_begin _ _ _ _ lx1 (ly_8_2 lx1) hc) rfl rfl (Nat.le_of_ble_eq_true rfl) rfl rfl ?_
  refine J_aload_n (pc := 17) X (j := 0) (i := 0) rfl rfl dX2_seekCheapest_17 ?_
  refine J_sipush (pc := 18) X (v := 496) (by decide) dX2_seekCheapest_18 ?_
  refine J_putI (pc := 21) X ly122 fp_2_89 dX2_seekCheapest_21 ?_
  refine J_ltH hq (fun h3 hq => ?_)
  refine J_iconst (pc := 24) X (v := 1) (by decide) dX2_seekCheapest_24 ?_
  refine J_istore_n (pc := 25) X (L' := [(3, .inl 1), (0, .inr (.inr 122)), (1, .inr (.inr x1)), (2, .inl x2)]) (i := 3) rfl (by decide) rfl dX2_seekCheapest_25 ?_
  refine J_sub [1, 3, 0] rfl ?_
  refine tL_X2_seekCheapest_26 X _ _ N0 _ _ _ ?_ hq
  · intro h7 q hq
    refine J_aload_n (pc := 51) X (j := 0) (i := 0) rfl rfl dX2_seekCheapest_51 ?_
    refine J_getI (pc := 52) X ly122 fl_2_89 dX2_seekCheapest_52 ?_
    refine J_sipush (pc := 55) X (v := 496) (by decide) dX2_seekCheapest_55 ?_
    refine J_icmp_ne (pc := 58) (tgt := 65) X dX2_seekCheapest_58 rfl (fun c8 => ?_) (fun c8 => ?_)
    · have hq := ite_f hq c8
      refine J_aload_n (pc := 65) X (j := 0) (i := 0) rfl rfl dX2_seekCheapest_65 ?_
      refine J_getI (pc := 66) X ly122 fl_2_89 dX2_seekCheapest_66 ?_
      obtain rfl := Option.some.inj hq
      exact J_iret (pc := 69) X dX2_seekCheapest_69
    · have hq := ite_t hq c8
      refine J_iconst (pc := 61) X (v := (-1)) (by decide) dX2_seekCheapest_61 ?_
      refine J_goto (pc := 62) X (tgt := 69) dX2_seekCheapest_62 rfl ?_
      obtain rfl := Option.some.inj hq
      exact J_iret (pc := 69) X dX2_seekCheapest_69
theorem m_X2_seekCheapest (x1 : Nat) (x2 : Int32) (h : Hp) (q : (Int32 × Hp)) (lx1 : lay x1 = some (.inl 8)) (hq : f_X2_seekCheapest x1 x2 h = some q) : ∀ l w, CT l w yX2_seekCheapest cX2_seekCheapest 4 (some .int) 406 [.inr (.inr 122), .inr (.inr x1), .inl x2] h (some (.inl q.1), q.2) :=
  CT_of (L0 := [(0, .inr (.inr 122)), (1, .inr (.inr x1)), (2, .inl x2)]) (by decide) rfl (Nat.le_of_ble_eq_true rfl) (fun κ X => tf_X2_seekCheapest X x1 x2 h q lx1 hq)
theorem tF_X11_agreed_4 {κ : Kx} (X : OK κ cX11_agreed 5 (some .int) "StruckWords$Walk" 3) (x1 : Int32) (k62 : Hp → Option (Int32 × Hp)) (k73 : Int32 → Hp → Option (Int32 × Hp)) (self : Int32 → Int32 → Hp → Option (Int32 × Hp)) (x2 : Int32) (x3 : Int32) (h : Hp) (q : (Int32 × Hp)) (hk62 : ∀ (h : Hp) (q : (Int32 × Hp)), k62 h = some q → J κ 62 [] [] h (some (.inl q.1), q.2)) (hk73 : ∀ (x2 : Int32) (h : Hp) (q : (Int32 × Hp)), k73 x2 h = some q → J κ 73 [(2, .inl x2)] [] h (some (.inl q.1), q.2)) (hself : ∀ (x2 : Int32) (x3 : Int32) (h : Hp) (q : (Int32 × Hp)), self x2 x3 h = some q → J κ 4 [(0, .inr (.inr 123)), (1, .inl x1), (2, .inl x2), (3, .inl x3)] [] h (some (.inl q.1), q.2)) (hq : F_X11_agreed_4 x1 k62 k73 self x2 x3 h = some q) : J κ 4 [(0, .inr (.inr 123)), (1, .inl x1), (2, .inl x2), (3, .inl x3)] [] h (some (.inl q.1), q.2) := by
  delta F_X11_agreed_4 at hq
  refine J_iload_n (pc := 4) X (j := 3) (i := 3) rfl rfl dX11_agreed_4 ?_
  refine J_aload_n (pc := 5) X (j := 0) (i := 0) rfl rfl dX11_agreed_5 ?_
  refine J_getI (pc := 6) X ly123 fl_11_56 dX11_agreed_6 ?_
  refine J_icmp_gt (pc := 9) (tgt := 73) X dX11_agreed_9 rfl (fun c1 => ?_) (fun c1 => ?_)
  · have hq := ite_t hq c1
    refine J_sub [2] rfl ?_
    exact hk73 _ _ _ hq
  · have hq := ite_f hq c1
    refine J_aload_n (pc := 12) X (j := 0) (i := 0) rfl rfl dX11_agreed_12 ?_
    refine J_getF (pc := 13) X (b := 127) ly123 fl_11_22 rfl dX11_agreed_13 ?_
    refine J_iload_n (pc := 16) X (j := 3) (i := 3) rfl rfl dX11_agreed_16 ?_
    obtain ⟨g2, hq⟩ := gd hq
    refine J_iaload (pc := 17) X ly127 g2 dX11_agreed_17 ?_
    refine J_bipush (pc := 18) X (v := 9) (by decide) dX11_agreed_18 ?_
    refine J_icmp_eq (pc := 20) (tgt := 67) X dX11_agreed_20 rfl (fun c3 => ?_) (fun c3 => ?_)
    · have hq := ite_t hq c3
      refine J_iinc (pc := 67) X (j := 3) (v := 1) (L' := [(3, .inl (x3 + 1)), (0, .inr (.inr 123)), (1, .inl x1), (2, .inl x2)]) rfl (by decide) (by decide) rfl dX11_agreed_67 ?_
      refine J_goto (pc := 70) X (tgt := 4) dX11_agreed_70 rfl ?_
      refine J_sub [1, 2, 3, 0] rfl ?_
      exact hself _ _ _ _ hq
    · have hq := ite_f hq c3
      refine J_aload_n (pc := 23) X (j := 0) (i := 0) rfl rfl dX11_agreed_23 ?_
      refine J_getR (pc := 24) X ly123 fl_11_41 dX11_agreed_24 ?_
      refine J_ltR hq (fun r4 hq => ?_)
      obtain ⟨g5, hq⟩ := gd hq
      refine J_aload_n (pc := 27) X (j := 0) (i := 0) rfl rfl dX11_agreed_27 ?_
      refine J_getF (pc := 28) X (b := 124) ly123 fl_11_9 rfl dX11_agreed_28 ?_
      refine J_iload_n (pc := 31) X (j := 1) (i := 1) rfl rfl dX11_agreed_31 ?_
      refine J_bipush (pc := 32) X (v := 6) (by decide) dX11_agreed_32 ?_
      refine J_imul (pc := 34) X dX11_agreed_34 ?_
      refine J_iload_n (pc := 35) X (j := 3) (i := 3) rfl rfl dX11_agreed_35 ?_
      refine J_iadd (pc := 36) X dX11_agreed_36 ?_
      obtain ⟨g6, hq⟩ := gd hq
      refine J_laload (pc := 37) X ly124 g6 dX11_agreed_37 ?_
      obtain ⟨v8, h7, hc, hq⟩ := bnd_e hq
      refine J_callV (pc := 38) (as := [.inr (.inl (h.2.1 124 (((x1 * 6) + x3).toNatClampNeg)))]) (st := []) (st2 := [.inl v8]) (r1 := (some (.inl v8), h7)) (h2 := h7) (ky := 2) X dX11_agreed_38 ca_X10_meant ci_X10_meant cs_X10_meant ml_11_81 (by decide) (isO_lay g5) rfl rfl (m_X10_meant _ _ _ _ (isO_lay g5) hc) rfl rfl (Nat.le_of_ble_eq_true rfl) rfl rfl ?_
      refine J_istore (pc := 41) X (L' := [(4, .inl v8), (0, .inr (.inr 123)), (1, .inl x1), (2, .inl x2), (3, .inl x3)]) (by decide) rfl dX11_agreed_41 ?_
      refine J_iload (pc := 43) X (j := 0) rfl dX11_agreed_43 ?_
      obtain ⟨v10, h9, hc, hq⟩ := bnd_e hq
      refine J_callS (pc := 45) (as := [.inl v8]) (st := []) (st2 := [.inl v10]) (r1 := (some (.inl v10), h9)) (h2 := h9) (ky := 1) X dX11_agreed_45 ca_J6_bitCount_0f7a4 cz_J6_bitCount_0f7a4 ml_11_85 (by decide) (m_J6_bitCount_0f7a4 _ _ _ hc) rfl rfl (Nat.le_of_ble_eq_true rfl) rfl rfl ?_
      refine J_iconst (pc := 48) X (v := 1) (by decide) dX11_agreed_48 ?_
      refine J_icmp_ne (pc := 49) (tgt := 62) X dX11_agreed_49 rfl (fun c11 => ?_) (fun c11 => ?_)
      · have hq := ite_f hq c11
        refine J_sub [] rfl ?_
        exact hk62 _ _ hq
      · have hq := ite_t hq c11
        refine J_iload_n (pc := 52) X (j := 3) (i := 2) rfl rfl dX11_agreed_52 ?_
        refine J_if_eq (pc := 53) (tgt := 64) X dX11_agreed_53 rfl (fun c12 => ?_) (fun c12 => ?_)
        · have hq := ite_t hq c12
          refine J_iload (pc := 64) X (j := 0) rfl dX11_agreed_64 ?_
          refine J_istore_n (pc := 66) X (L' := [(2, .inl v8), (4, .inl v8), (0, .inr (.inr 123)), (1, .inl x1), (3, .inl x3)]) (i := 2) rfl (by decide) rfl dX11_agreed_66 ?_
          refine J_iinc (pc := 67) X (j := 4) (v := 1) (L' := [(3, .inl (x3 + 1)), (2, .inl v8), (4, .inl v8), (0, .inr (.inr 123)), (1, .inl x1)]) rfl (by decide) (by decide) rfl dX11_agreed_67 ?_
          refine J_goto (pc := 70) X (tgt := 4) dX11_agreed_70 rfl ?_
          refine J_sub [3, 4, 1, 0] rfl ?_
          exact hself _ _ _ _ hq
        · have hq := ite_f hq c12
          refine J_iload_n (pc := 56) X (j := 3) (i := 2) rfl rfl dX11_agreed_56 ?_
          refine J_iload (pc := 57) X (j := 0) rfl dX11_agreed_57 ?_
          refine J_icmp_eq (pc := 59) (tgt := 64) X dX11_agreed_59 rfl (fun c13 => ?_) (fun c13 => ?_)
          · have hq := ite_t hq c13
            refine J_iload (pc := 64) X (j := 0) rfl dX11_agreed_64 ?_
            refine J_istore_n (pc := 66) X (L' := [(2, .inl v8), (4, .inl v8), (0, .inr (.inr 123)), (1, .inl x1), (3, .inl x3)]) (i := 2) rfl (by decide) rfl dX11_agreed_66 ?_
            refine J_iinc (pc := 67) X (j := 4) (v := 1) (L' := [(3, .inl (x3 + 1)), (2, .inl v8), (4, .inl v8), (0, .inr (.inr 123)), (1, .inl x1)]) rfl (by decide) (by decide) rfl dX11_agreed_67 ?_
            refine J_goto (pc := 70) X (tgt := 4) dX11_agreed_70 rfl ?_
            refine J_sub [3, 4, 1, 0] rfl ?_
            exact hself _ _ _ _ hq
          · have hq := ite_f hq c13
            refine J_sub [] rfl ?_
            exact hk62 _ _ hq
theorem tL_X11_agreed_4 {κ : Kx} (X : OK κ cX11_agreed 5 (some .int) "StruckWords$Walk" 3) (x1 : Int32) (k62 : Hp → Option (Int32 × Hp)) (k73 : Int32 → Hp → Option (Int32 × Hp)) (N : Nat) (x2 : Int32) (x3 : Int32) (h : Hp) (q : (Int32 × Hp)) (hk62 : ∀ (h : Hp) (q : (Int32 × Hp)), k62 h = some q → J κ 62 [] [] h (some (.inl q.1), q.2)) (hk73 : ∀ (x2 : Int32) (h : Hp) (q : (Int32 × Hp)), k73 x2 h = some q → J κ 73 [(2, .inl x2)] [] h (some (.inl q.1), q.2)) (hq : itr3 (F_X11_agreed_4 x1 k62 k73) N x2 x3 h = some q) : J κ 4 [(0, .inr (.inr 123)), (1, .inl x1), (2, .inl x2), (3, .inl x3)] [] h (some (.inl q.1), q.2) :=
  itr3_ind (fun self hs x2 x3 h q hq => tF_X11_agreed_4 X x1 k62 k73 self x2 x3 h q hk62 hk73 hs hq) N x2 x3 h q hq
theorem tf_X11_agreed {κ : Kx} (X : OK κ cX11_agreed 5 (some .int) "StruckWords$Walk" 3) (x1 : Int32) (h : Hp) (q : (Int32 × Hp)) (hq : f_X11_agreed x1 h = some q) : J κ 0 [(0, .inr (.inr 123)), (1, .inl x1)] [] h (some (.inl q.1), q.2) := by
  delta f_X11_agreed at hq
  refine J_iconst (pc := 0) X (v := 0) (by decide) dX11_agreed_0 ?_
  refine J_istore_n (pc := 1) X (L' := [(2, .inl 0), (0, .inr (.inr 123)), (1, .inl x1)]) (i := 2) rfl (by decide) rfl dX11_agreed_1 ?_
  refine J_iconst (pc := 2) X (v := 0) (by decide) dX11_agreed_2 ?_
  refine J_istore_n (pc := 3) X (L' := [(3, .inl 0), (2, .inl 0), (0, .inr (.inr 123)), (1, .inl x1)]) (i := 3) rfl (by decide) rfl dX11_agreed_3 ?_
  refine J_sub [2, 3, 1, 0] rfl ?_
  refine tL_X11_agreed_4 X _ _ _ N0 _ _ _ _ ?_ ?_ hq
  · intro h14 q hq
    refine J_iconst (pc := 62) X (v := 0) (by decide) dX11_agreed_62 ?_
    obtain rfl := Option.some.inj hq
    exact J_iret (pc := 63) X dX11_agreed_63
  · intro v16 h15 q hq
    refine J_iload_n (pc := 73) X (j := 0) (i := 2) rfl rfl dX11_agreed_73 ?_
    obtain rfl := Option.some.inj hq
    exact J_iret (pc := 74) X dX11_agreed_74
theorem m_X11_agreed (x1 : Int32) (h : Hp) (q : (Int32 × Hp)) (hq : f_X11_agreed x1 h = some q) : ∀ l w, CT l w yX11_agreed cX11_agreed 5 (some .int) 3 [.inr (.inr 123), .inl x1] h (some (.inl q.1), q.2) :=
  CT_of (L0 := [(0, .inr (.inr 123)), (1, .inl x1)]) (by decide) rfl (Nat.le_of_ble_eq_true rfl) (fun κ X => tf_X11_agreed X x1 h q  hq)
theorem tF_X2_collect_19 {κ : Kx} {k0 : Nat} (X : OK κ cX2_collect 5 (some .int) "StruckWords$Finder" (k0 + 1)) (rec : Int32 → Int32 → Hp → Option (Int32 × Hp)) (x1 : Int32) (x2 : Int32) (k61 : Int32 → Hp → Option (Int32 × Hp)) (self : Int32 → Int32 → Hp → Option (Int32 × Hp)) (x3 : Int32) (x4 : Int32) (h : Hp) (q : (Int32 × Hp)) (hk0 : 5 ≤ k0) (hrec : ∀ (x1 : Int32) (x2 : Int32) (h : Hp) (q : (Int32 × Hp)) , rec x1 x2 h = some q → ∀ l w, CT l w yX2_collect cX2_collect 5 (some .int) k0 [.inr (.inr 122), .inl x1, .inl x2] h (some (.inl q.1), q.2)) (hk61 : ∀ (x3 : Int32) (h : Hp) (q : (Int32 × Hp)), k61 x3 h = some q → J κ 61 [(3, .inl x3)] [] h (some (.inl q.1), q.2)) (hself : ∀ (x3 : Int32) (x4 : Int32) (h : Hp) (q : (Int32 × Hp)), self x3 x4 h = some q → J κ 19 [(0, .inr (.inr 122)), (1, .inl x1), (2, .inl x2), (3, .inl x3), (4, .inl x4)] [] h (some (.inl q.1), q.2)) (hq : F_X2_collect_19 rec x1 x2 k61 self x3 x4 h = some q) : J κ 19 [(0, .inr (.inr 122)), (1, .inl x1), (2, .inl x2), (3, .inl x3), (4, .inl x4)] [] h (some (.inl q.1), q.2) := by
  delta F_X2_collect_19 at hq
  refine J_iload (pc := 19) X (j := 4) rfl dX2_collect_19 ?_
  refine J_aload_n (pc := 21) X (j := 0) (i := 0) rfl rfl dX2_collect_21 ?_
  refine J_getR (pc := 22) X ly122 fl_2_59 dX2_collect_22 ?_
  refine J_ltR hq (fun r4 hq => ?_)
  obtain ⟨g5, hq⟩ := gd hq
  refine J_getI (pc := 25) X (isO_lay g5) fl_2_77 dX2_collect_25 ?_
  refine J_icmp_ge (pc := 28) (tgt := 61) X dX2_collect_28 rfl (fun c6 => ?_) (fun c6 => ?_)
  · have hq := ite_t hq c6
    refine J_sub [3] rfl ?_
    exact hk61 _ _ _ hq
  · have hq := ite_f hq c6
    refine J_aload_n (pc := 31) X (j := 0) (i := 0) rfl rfl dX2_collect_31 ?_
    refine J_getF (pc := 32) X (b := 123) ly122 fl_2_12 rfl dX2_collect_32 ?_
    refine J_iload_n (pc := 35) X (j := 1) (i := 1) rfl rfl dX2_collect_35 ?_
    refine J_iload (pc := 36) X (j := 4) rfl dX2_collect_36 ?_
    obtain ⟨v8, h7, hc, hq⟩ := bnd_e hq
    refine J_callV (pc := 38) (as := [.inl x1, .inl x4]) (st := []) (st2 := [.inl v8]) (r1 := (some (.inl v8), h7)) (h2 := h7) (ky := 4) X dX2_collect_38 ca_X11_put ci_X11_put cs_X11_put ml_2_82 (by omega) ly123 rfl rfl (m_X11_put _ _ _ _ hc) rfl rfl (Nat.le_of_ble_eq_true rfl) rfl rfl ?_
    refine J_if_eq (pc := 41) (tgt := 55) X dX2_collect_41 rfl (fun c9 => ?_) (fun c9 => ?_)
    · have hq := ite_t hq c9
      refine J_iinc (pc := 55) X (j := 4) (v := 1) (L' := [(4, .inl (x4 + 1)), (0, .inr (.inr 122)), (1, .inl x1), (2, .inl x2), (3, .inl x3)]) rfl (by decide) (by decide) rfl dX2_collect_55 ?_
      refine J_goto (pc := 58) X (tgt := 19) dX2_collect_58 rfl ?_
      refine J_sub [1, 2, 3, 4, 0] rfl ?_
      exact hself _ _ _ _ hq
    · have hq := ite_f hq c9
      refine J_iload_n (pc := 44) X (j := 3) (i := 3) rfl rfl dX2_collect_44 ?_
      refine J_aload_n (pc := 45) X (j := 0) (i := 0) rfl rfl dX2_collect_45 ?_
      refine J_iload_n (pc := 46) X (j := 1) (i := 1) rfl rfl dX2_collect_46 ?_
      refine J_iconst (pc := 47) X (v := 1) (by decide) dX2_collect_47 ?_
      refine J_iadd (pc := 48) X dX2_collect_48 ?_
      refine J_iload_n (pc := 49) X (j := 2) (i := 2) rfl rfl dX2_collect_49 ?_
      obtain ⟨v11, h10, hc, hq⟩ := bnd_e hq
      refine J_callV (pc := 50) (as := [.inl (x1 + 1), .inl x2]) (st := [.inl x3]) (st2 := [.inl v11, .inl x3]) (r1 := (some (.inl v11), h10)) (h2 := h10) (ky := k0) X dX2_collect_50 ca_X2_collect ci_X2_collect cs_X2_collect ml_2_105 (by omega) ly122 rfl rfl (hrec _ _ _ _ hc) rfl rfl (Nat.le_of_ble_eq_true rfl) rfl rfl ?_
      refine J_ior (pc := 53) X dX2_collect_53 ?_
      refine J_ltI hq (fun v12 hq => ?_)
      refine J_istore_n (pc := 54) X (L' := [(3, .inl v12), (0, .inr (.inr 122)), (1, .inl x1), (2, .inl x2), (4, .inl x4)]) (i := 3) rfl (by decide) rfl dX2_collect_54 ?_
      refine J_iinc (pc := 55) X (j := 4) (v := 1) (L' := [(4, .inl (x4 + 1)), (3, .inl v12), (0, .inr (.inr 122)), (1, .inl x1), (2, .inl x2)]) rfl (by decide) (by decide) rfl dX2_collect_55 ?_
      refine J_goto (pc := 58) X (tgt := 19) dX2_collect_58 rfl ?_
      refine J_sub [2, 3, 4, 1, 0] rfl ?_
      exact hself _ _ _ _ hq
theorem tL_X2_collect_19 {κ : Kx} {k0 : Nat} (X : OK κ cX2_collect 5 (some .int) "StruckWords$Finder" (k0 + 1)) (rec : Int32 → Int32 → Hp → Option (Int32 × Hp)) (x1 : Int32) (x2 : Int32) (k61 : Int32 → Hp → Option (Int32 × Hp)) (N : Nat) (x3 : Int32) (x4 : Int32) (h : Hp) (q : (Int32 × Hp)) (hk0 : 5 ≤ k0) (hrec : ∀ (x1 : Int32) (x2 : Int32) (h : Hp) (q : (Int32 × Hp)) , rec x1 x2 h = some q → ∀ l w, CT l w yX2_collect cX2_collect 5 (some .int) k0 [.inr (.inr 122), .inl x1, .inl x2] h (some (.inl q.1), q.2)) (hk61 : ∀ (x3 : Int32) (h : Hp) (q : (Int32 × Hp)), k61 x3 h = some q → J κ 61 [(3, .inl x3)] [] h (some (.inl q.1), q.2)) (hq : itr3 (F_X2_collect_19 rec x1 x2 k61) N x3 x4 h = some q) : J κ 19 [(0, .inr (.inr 122)), (1, .inl x1), (2, .inl x2), (3, .inl x3), (4, .inl x4)] [] h (some (.inl q.1), q.2) :=
  itr3_ind (fun self hs x3 x4 h q hq => tF_X2_collect_19 X rec x1 x2 k61 self x3 x4 h q hk0 hrec hk61 hs hq) N x3 x4 h q hq
theorem tE_X2_collect {κ : Kx} {k0 : Nat} (X : OK κ cX2_collect 5 (some .int) "StruckWords$Finder" (k0 + 1)) (rec : Int32 → Int32 → Hp → Option (Int32 × Hp)) (x1 : Int32) (x2 : Int32) (h : Hp) (q : (Int32 × Hp)) (hk0 : 5 ≤ k0) (hrec : ∀ (x1 : Int32) (x2 : Int32) (h : Hp) (q : (Int32 × Hp)) , rec x1 x2 h = some q → ∀ l w, CT l w yX2_collect cX2_collect 5 (some .int) k0 [.inr (.inr 122), .inl x1, .inl x2] h (some (.inl q.1), q.2)) (hq : E_X2_collect rec x1 x2 h = some q) : J κ 0 [(0, .inr (.inr 122)), (1, .inl x1), (2, .inl x2)] [] h (some (.inl q.1), q.2) := by
  delta E_X2_collect at hq
  refine J_aload_n (pc := 0) X (j := 0) (i := 0) rfl rfl dX2_collect_0 ?_
  refine J_getF (pc := 1) X (b := 123) ly122 fl_2_12 rfl dX2_collect_1 ?_
  refine J_iload_n (pc := 4) X (j := 1) (i := 1) rfl rfl dX2_collect_4 ?_
  obtain ⟨v2, h1, hc, hq⟩ := bnd_e hq
  refine J_callV (pc := 5) (as := [.inl x1]) (st := []) (st2 := [.inl v2]) (r1 := (some (.inl v2), h1)) (h2 := h1) (ky := 3) X dX2_collect_5 ca_X11_agreed ci_X11_agreed cs_X11_agreed ml_2_109 (by omega) ly123 rfl rfl (m_X11_agreed _ _ _ hc) rfl rfl (Nat.le_of_ble_eq_true rfl) rfl rfl ?_
  refine J_istore_n (pc := 8) X (L' := [(3, .inl v2), (0, .inr (.inr 122)), (1, .inl x1), (2, .inl x2)]) (i := 3) rfl (by decide) rfl dX2_collect_8 ?_
  refine J_iload_n (pc := 9) X (j := 2) (i := 1) rfl rfl dX2_collect_9 ?_
  refine J_iload_n (pc := 10) X (j := 3) (i := 2) rfl rfl dX2_collect_10 ?_
  refine J_icmp_lt (pc := 11) (tgt := 16) X dX2_collect_11 rfl (fun c3 => ?_) (fun c3 => ?_)
  · have hq := ite_t hq c3
    refine J_iconst (pc := 16) X (v := 0) (by decide) dX2_collect_16 ?_
    refine J_istore (pc := 17) X (L' := [(4, .inl 0), (3, .inl v2), (0, .inr (.inr 122)), (1, .inl x1), (2, .inl x2)]) (by decide) rfl dX2_collect_17 ?_
    refine J_sub [2, 3, 4, 1, 0] rfl ?_
    refine tL_X2_collect_19 X _ _ _ _ N0 _ _ _ _ hk0 hrec ?_ hq
    · intro v14 h13 q hq
      refine J_iload_n (pc := 61) X (j := 0) (i := 3) rfl rfl dX2_collect_61 ?_
      obtain rfl := Option.some.inj hq
      exact J_iret (pc := 62) X dX2_collect_62
  · have hq := ite_f hq c3
    refine J_iload_n (pc := 14) X (j := 0) (i := 3) rfl rfl dX2_collect_14 ?_
    obtain rfl := Option.some.inj hq
    exact J_iret (pc := 15) X dX2_collect_15
theorem mm_X2_collect : ∀ (n : Nat) (x1 : Int32) (x2 : Int32) (h : Hp) (q : (Int32 × Hp)) , itr3 E_X2_collect n x1 x2 h = some q → ∀ l w, CT l w yX2_collect cX2_collect 5 (some .int) (5 + n) [.inr (.inr 122), .inl x1, .inl x2] h (some (.inl q.1), q.2) := by
  intro n
  induction n with
  | zero => intro x1 x2 h q  hq; cases hq
  | succ n ih =>
    intro x1 x2 h q  hq
    exact CT_of (L0 := [(0, .inr (.inr 122)), (1, .inl x1), (2, .inl x2)]) (by decide) rfl (Nat.le_of_ble_eq_true rfl) (fun κ X => tE_X2_collect (k0 := 5 + n) X (itr3 E_X2_collect n) x1 x2 h q (Nat.le_add_right _ _) ih  hq)
theorem m_X2_collect (x1 : Int32) (x2 : Int32) (h : Hp) (q : (Int32 × Hp)) (hq : f_X2_collect x1 x2 h = some q) : ∀ l w, CT l w yX2_collect cX2_collect 5 (some .int) 405 [.inr (.inr 122), .inl x1, .inl x2] h (some (.inl q.1), q.2) := mm_X2_collect 400 x1 x2 h q  hq
theorem tf_X2_collectSafe {κ : Kx} (X : OK κ cX2_collectSafe 3 (some .int) "StruckWords$Finder" 406) (x1 : Nat) (x2 : Int32) (h : Hp) (q : (Int32 × Hp)) (lx1 : lay x1 = some (.inl 8)) (hq : f_X2_collectSafe x1 x2 h = some q) : J κ 0 [(0, .inr (.inr 122)), (1, .inr (.inr x1)), (2, .inl x2)] [] h (some (.inl q.1), q.2) := by
  delta f_X2_collectSafe at hq
  refine J_aload_n (pc := 0) X (j := 0) (i := 0) rfl rfl dX2_collectSafe_0 ?_
  refine J_aload_n (pc := 1) X (j := 1) (i := 1) rfl rfl dX2_collectSafe_1 ?_
  refine J_putR (pc := 2) X ly122 fp_2_59 dX2_collectSafe_2 ?_
  refine J_ltH hq (fun h1 hq => ?_)
  refine J_aload_n (pc := 5) X (j := 0) (i := 0) rfl rfl dX2_collectSafe_5 ?_
  refine J_bipush (pc := 6) X (v := 9) (by decide) dX2_collectSafe_6 ?_
  refine J_bipush (pc := 8) X (v := 10) (by decide) dX2_collectSafe_8 ?_
  obtain ⟨h2, hc, hq⟩ := bnv_e hq
  refine J_callV (pc := 10) (as := [.inl 9, .inl 10]) (st := []) (st2 := []) (r1 := (none, h2)) (h2 := h2) (ky := 2) X dX2_collectSafe_10 ca_X2_wantByAll ci_X2_wantByAll cs_X2_wantByAll ml_2_102 (by decide) ly122 rfl rfl (m_X2_wantByAll _ _ _ _ hc) rfl rfl (Nat.le_of_ble_eq_true rfl) rfl rfl ?_
  refine J_aload_n (pc := 13) X (j := 0) (i := 0) rfl rfl dX2_collectSafe_13 ?_
  refine J_getF (pc := 14) X (b := 123) ly122 fl_2_12 rfl dX2_collectSafe_14 ?_
  refine J_aload_n (pc := 17) X (j := 1) (i := 1) rfl rfl dX2_collectSafe_17 ?_
  refine J_aload_n (pc := 18) X (j := 1) (i := 1) rfl rfl dX2_collectSafe_18 ?_
  refine J_getF (pc := 19) X (b := x1 + 2) lx1 fl_2_86 rfl dX2_collectSafe_19 ?_
  obtain ⟨h3, hc, hq⟩ := bnv_e hq
  refine J_callV (pc := 22) (as := [.inr (.inr x1), .inr (.inr (x1 + 2))]) (st := []) (st2 := []) (r1 := (none, h3)) (h2 := h3) (ky := 2) X dX2_collectSafe_22 ca_X11_begin ci_X11_begin cs_X11_begin ml_2_63 (by decide) ly123 rfl rfl (m_X11_begin _ _ _ _ lx1 (ly_8_2 lx1) hc) rfl rfl (Nat.le_of_ble_eq_true rfl) rfl rfl ?_
  refine J_aload_n (pc := 25) X (j := 0) (i := 0) rfl rfl dX2_collectSafe_25 ?_
  refine J_getF (pc := 26) X (b := 123) ly122 fl_2_12 rfl dX2_collectSafe_26 ?_
  refine J_iconst (pc := 29) X (v := (-1)) (by decide) dX2_collectSafe_29 ?_
  refine J_putI (pc := 30) X ly123 fp_2_67 dX2_collectSafe_30 ?_
  refine J_ltH hq (fun h4 hq => ?_)
  refine J_aload_n (pc := 33) X (j := 0) (i := 0) rfl rfl dX2_collectSafe_33 ?_
  refine J_iconst (pc := 34) X (v := 0) (by decide) dX2_collectSafe_34 ?_
  refine J_iload_n (pc := 35) X (j := 2) (i := 2) rfl rfl dX2_collectSafe_35 ?_
  obtain ⟨v6, h5, hc, hq⟩ := bnd_e hq
  refine J_callV (pc := 36) (as := [.inl 0, .inl x2]) (st := []) (st2 := [.inl v6]) (r1 := (some (.inl v6), h5)) (h2 := h5) (ky := 405) X dX2_collectSafe_36 ca_X2_collect ci_X2_collect cs_X2_collect ml_2_105 (by decide) ly122 rfl rfl (m_X2_collect _ _ _ _ hc) rfl rfl (Nat.le_of_ble_eq_true rfl) rfl rfl ?_
  obtain rfl := Option.some.inj hq
  exact J_iret (pc := 39) X dX2_collectSafe_39
theorem m_X2_collectSafe (x1 : Nat) (x2 : Int32) (h : Hp) (q : (Int32 × Hp)) (lx1 : lay x1 = some (.inl 8)) (hq : f_X2_collectSafe x1 x2 h = some q) : ∀ l w, CT l w yX2_collectSafe cX2_collectSafe 3 (some .int) 406 [.inr (.inr 122), .inr (.inr x1), .inl x2] h (some (.inl q.1), q.2) :=
  CT_of (L0 := [(0, .inr (.inr 122)), (1, .inr (.inr x1)), (2, .inl x2)]) (by decide) rfl (Nat.le_of_ble_eq_true rfl) (fun κ X => tf_X2_collectSafe X x1 x2 h q lx1 hq)
theorem tf_X7_atOrNone {κ : Kx} (X : OK κ cX7_atOrNone 2 (some .int) "StruckWords$Row" 1) (x0 : Nat) (x1 : Int32) (h : Hp) (q : (Int32 × Hp)) (lx0 : lay x0 = some (.inl 5)) (hq : f_X7_atOrNone x0 x1 h = some q) : J κ 0 [(0, .inr (.inr x0)), (1, .inl x1)] [] h (some (.inl q.1), q.2) := by
  delta f_X7_atOrNone at hq
  refine J_iload_n (pc := 0) X (j := 1) (i := 1) rfl rfl dX7_atOrNone_0 ?_
  refine J_if_lt (pc := 1) (tgt := 21) X dX7_atOrNone_1 rfl (fun c1 => ?_) (fun c1 => ?_)
  · have hq := ite_t hq c1
    refine J_iconst (pc := 21) X (v := (-1)) (by decide) dX7_atOrNone_21 ?_
    obtain rfl := Option.some.inj hq
    exact J_iret (pc := 22) X dX7_atOrNone_22
  · have hq := ite_f hq c1
    refine J_iload_n (pc := 4) X (j := 1) (i := 1) rfl rfl dX7_atOrNone_4 ?_
    refine J_aload_n (pc := 5) X (j := 0) (i := 0) rfl rfl dX7_atOrNone_5 ?_
    refine J_getI (pc := 6) X lx0 fl_7_21 dX7_atOrNone_6 ?_
    refine J_icmp_ge (pc := 9) (tgt := 21) X dX7_atOrNone_9 rfl (fun c2 => ?_) (fun c2 => ?_)
    · have hq := ite_t hq c2
      refine J_iconst (pc := 21) X (v := (-1)) (by decide) dX7_atOrNone_21 ?_
      obtain rfl := Option.some.inj hq
      exact J_iret (pc := 22) X dX7_atOrNone_22
    · have hq := ite_f hq c2
      refine J_aload_n (pc := 12) X (j := 0) (i := 0) rfl rfl dX7_atOrNone_12 ?_
      refine J_getF (pc := 13) X (b := x0 + 1) lx0 fl_7_15 rfl dX7_atOrNone_13 ?_
      refine J_iload_n (pc := 16) X (j := 1) (i := 1) rfl rfl dX7_atOrNone_16 ?_
      obtain ⟨g3, hq⟩ := gd hq
      refine J_iaload (pc := 17) X (ly_5_1 lx0) g3 dX7_atOrNone_17 ?_
      refine J_goto (pc := 18) X (tgt := 22) dX7_atOrNone_18 rfl ?_
      obtain rfl := Option.some.inj hq
      exact J_iret (pc := 22) X dX7_atOrNone_22
theorem m_X7_atOrNone (x0 : Nat) (x1 : Int32) (h : Hp) (q : (Int32 × Hp)) (lx0 : lay x0 = some (.inl 5)) (hq : f_X7_atOrNone x0 x1 h = some q) : ∀ l w, CT l w yX7_atOrNone cX7_atOrNone 2 (some .int) 1 [.inr (.inr x0), .inl x1] h (some (.inl q.1), q.2) :=
  CT_of (L0 := [(0, .inr (.inr x0)), (1, .inl x1)]) (by decide) rfl (Nat.le_of_ble_eq_true rfl) (fun κ X => tf_X7_atOrNone X x0 x1 h q lx0 hq)
