theorem tB_X12_book_71 {κ : Kx} (X : OK κ cX12_book 5 (some .int) "StruckWords" 5) (x1 : Int32) (k83 : Int32 → Hp → Option (Int32 × Hp)) (self : Int32 → Int32 → Hp → Option (Int32 × Hp)) (x2 : Int32) (x3 : Int32) (h : Hp) (q : (Int32 × Hp)) (hk83 : ∀ (x2 : Int32) (h : Hp) (q : (Int32 × Hp)), k83 x2 h = some q → J κ 83 [(2, .inl x2)] [] h (some (.inl q.1), q.2)) (hself : ∀ (x2 : Int32) (x3 : Int32) (h : Hp) (q : (Int32 × Hp)), self x2 x3 h = some q → J κ 14 [(0, .inr (.inr 1)), (1, .inl x1), (2, .inl x2), (3, .inl x3)] [] h (some (.inl q.1), q.2)) (hq : B_X12_book_71 x1 k83 self x2 x3 h = some q) : J κ 71 [(0, .inr (.inr 1)), (1, .inl x1), (2, .inl x2), (3, .inl x3)] [] h (some (.inl q.1), q.2) := by
  delta B_X12_book_71 at hq
  refine J_iload_n (pc := 71) X (j := 2) (i := 2) rfl rfl dX12_book_71 ?_
  refine J_iconst (pc := 72) X (v := 1) (by decide) dX12_book_72 ?_
  refine J_iload_n (pc := 73) X (j := 3) (i := 3) rfl rfl dX12_book_73 ?_
  refine J_ishl (pc := 74) X dX12_book_74 ?_
  refine J_ior (pc := 75) X dX12_book_75 ?_
  refine J_ltI hq (fun v10 hq => ?_)
  refine J_istore_n (pc := 76) X (L' := [(2, .inl v10), (0, .inr (.inr 1)), (1, .inl x1), (3, .inl x3)]) (i := 2) rfl (by decide) rfl dX12_book_76 ?_
  refine J_iinc (pc := 77) X (j := 3) (v := 1) (L' := [(3, .inl (x3 + 1)), (2, .inl v10), (0, .inr (.inr 1)), (1, .inl x1)]) rfl (by decide) (by decide) rfl dX12_book_77 ?_
  refine J_goto (pc := 80) X (tgt := 14) dX12_book_80 rfl ?_
  refine J_sub [2, 3, 1, 0] rfl ?_
  exact hself _ _ _ _ hq
theorem tF_X12_book_14 {κ : Kx} (X : OK κ cX12_book 5 (some .int) "StruckWords" 5) (x1 : Int32) (k83 : Int32 → Hp → Option (Int32 × Hp)) (self : Int32 → Int32 → Hp → Option (Int32 × Hp)) (x2 : Int32) (x3 : Int32) (h : Hp) (q : (Int32 × Hp)) (hk83 : ∀ (x2 : Int32) (h : Hp) (q : (Int32 × Hp)), k83 x2 h = some q → J κ 83 [(2, .inl x2)] [] h (some (.inl q.1), q.2)) (hself : ∀ (x2 : Int32) (x3 : Int32) (h : Hp) (q : (Int32 × Hp)), self x2 x3 h = some q → J κ 14 [(0, .inr (.inr 1)), (1, .inl x1), (2, .inl x2), (3, .inl x3)] [] h (some (.inl q.1), q.2)) (hq : F_X12_book_14 x1 k83 self x2 x3 h = some q) : J κ 14 [(0, .inr (.inr 1)), (1, .inl x1), (2, .inl x2), (3, .inl x3)] [] h (some (.inl q.1), q.2) := by
  delta F_X12_book_14 at hq
  refine J_iload_n (pc := 14) X (j := 3) (i := 3) rfl rfl dX12_book_14 ?_
  refine J_aload_n (pc := 15) X (j := 0) (i := 0) rfl rfl dX12_book_15 ?_
  refine J_getF (pc := 16) X (b := 6) ly1 fl_12_28 rfl dX12_book_16 ?_
  refine J_getI (pc := 19) X ly6 fl_12_319 dX12_book_19 ?_
  refine J_icmp_ge (pc := 22) (tgt := 83) X dX12_book_22 rfl (fun c4 => ?_) (fun c4 => ?_)
  · have hq := ite_t hq c4
    refine J_sub [2] rfl ?_
    exact hk83 _ _ _ hq
  · have hq := ite_f hq c4
    refine J_aload_n (pc := 25) X (j := 0) (i := 0) rfl rfl dX12_book_25 ?_
    refine J_getF (pc := 26) X (b := 113) ly1 fl_12_43 rfl dX12_book_26 ?_
    refine J_aload_n (pc := 29) X (j := 0) (i := 0) rfl rfl dX12_book_29 ?_
    refine J_getF (pc := 30) X (b := 6) ly1 fl_12_28 rfl dX12_book_30 ?_
    refine J_getF (pc := 33) X (b := 7) ly6 fl_12_95 rfl dX12_book_33 ?_
    refine J_aload_n (pc := 36) X (j := 0) (i := 0) rfl rfl dX12_book_36 ?_
    refine J_getF (pc := 37) X (b := 6) ly1 fl_12_28 rfl dX12_book_37 ?_
    refine J_getF (pc := 40) X (b := 20) ly6 fl_12_322 rfl dX12_book_40 ?_
    refine J_iload_n (pc := 43) X (j := 3) (i := 3) rfl rfl dX12_book_43 ?_
    obtain ⟨g5, hq⟩ := gd hq
    refine J_aaloadR (pc := 44) X ly20 g5 dX12_book_44 ?_
    obtain ⟨v7, h6, hc, hq⟩ := bnd_e hq
    refine J_callV (pc := 45) (as := [.inr (.inr 7), .inr (.inr (20 + 1 + 2 * x3.toNatClampNeg))]) (st := []) (st2 := [.inl v7]) (r1 := (some (.inl v7), h6)) (h2 := h6) (ky := 4) X dX12_book_45 ca_X3_turnsOf ci_X3_turnsOf cs_X3_turnsOf ml_12_203 (by decide) ly113 rfl rfl (m_X3_turnsOf _ _ _ _ ly7 (ly_cl ly20 _ (inb_lt g5)) hc) rfl rfl (Nat.le_of_ble_eq_true rfl) rfl rfl ?_
    refine J_istore (pc := 48) X (L' := [(4, .inl v7), (0, .inr (.inr 1)), (1, .inl x1), (2, .inl x2), (3, .inl x3)]) (by decide) rfl dX12_book_48 ?_
    refine J_iload_n (pc := 50) X (j := 2) (i := 1) rfl rfl dX12_book_50 ?_
    refine J_if_ne (pc := 51) (tgt := 62) X dX12_book_51 rfl (fun c8 => ?_) (fun c8 => ?_)
    · have hq := ite_f hq c8
      refine J_iload (pc := 62) X (j := 0) rfl dX12_book_62 ?_
      refine J_iload_n (pc := 64) X (j := 2) (i := 1) rfl rfl dX12_book_64 ?_
      refine J_ishr (pc := 65) X dX12_book_65 ?_
      refine J_iconst (pc := 66) X (v := 1) (by decide) dX12_book_66 ?_
      refine J_iand (pc := 67) X dX12_book_67 ?_
      refine J_if_eq (pc := 68) (tgt := 77) X dX12_book_68 rfl (fun c9 => ?_) (fun c9 => ?_)
      · have hq := ite_t hq c9
        refine J_iinc (pc := 77) X (j := 4) (v := 1) (L' := [(3, .inl (x3 + 1)), (4, .inl v7), (0, .inr (.inr 1)), (1, .inl x1), (2, .inl x2)]) rfl (by decide) (by decide) rfl dX12_book_77 ?_
        refine J_goto (pc := 80) X (tgt := 14) dX12_book_80 rfl ?_
        refine J_sub [2, 3, 4, 0] rfl ?_
        exact hself _ _ _ _ hq
      · have hq := ite_f hq c9
        refine J_sub [1, 2, 3, 4] rfl ?_
        exact tB_X12_book_71 X _ _ _ _ _ _ _ hk83 hself hq
    · have hq := ite_t hq c8
      refine J_iload (pc := 54) X (j := 0) rfl dX12_book_54 ?_
      refine J_if_eq (pc := 56) (tgt := 77) X dX12_book_56 rfl (fun c11 => ?_) (fun c11 => ?_)
      · have hq := ite_t hq c11
        refine J_iinc (pc := 77) X (j := 4) (v := 1) (L' := [(3, .inl (x3 + 1)), (4, .inl v7), (0, .inr (.inr 1)), (1, .inl x1), (2, .inl x2)]) rfl (by decide) (by decide) rfl dX12_book_77 ?_
        refine J_goto (pc := 80) X (tgt := 14) dX12_book_80 rfl ?_
        refine J_sub [2, 3, 4, 0] rfl ?_
        exact hself _ _ _ _ hq
      · have hq := ite_f hq c11
        refine J_goto (pc := 59) X (tgt := 71) dX12_book_59 rfl ?_
        refine J_sub [1, 2, 3, 4] rfl ?_
        exact tB_X12_book_71 X _ _ _ _ _ _ _ hk83 hself hq
theorem tL_X12_book_14 {κ : Kx} (X : OK κ cX12_book 5 (some .int) "StruckWords" 5) (x1 : Int32) (k83 : Int32 → Hp → Option (Int32 × Hp)) (N : Nat) (x2 : Int32) (x3 : Int32) (h : Hp) (q : (Int32 × Hp)) (hk83 : ∀ (x2 : Int32) (h : Hp) (q : (Int32 × Hp)), k83 x2 h = some q → J κ 83 [(2, .inl x2)] [] h (some (.inl q.1), q.2)) (hq : itr3 (F_X12_book_14 x1 k83) N x2 x3 h = some q) : J κ 14 [(0, .inr (.inr 1)), (1, .inl x1), (2, .inl x2), (3, .inl x3)] [] h (some (.inl q.1), q.2) :=
  itr3_ind (fun self hs x2 x3 h q hq => tF_X12_book_14 X x1 k83 self x2 x3 h q hk83 hs hq) N x2 x3 h q hq
theorem tf_X12_book {κ : Kx} (X : OK κ cX12_book 5 (some .int) "StruckWords" 5) (x1 : Int32) (h : Hp) (q : (Int32 × Hp)) (hq : f_X12_book x1 h = some q) : J κ 0 [(0, .inr (.inr 1)), (1, .inl x1)] [] h (some (.inl q.1), q.2) := by
  delta f_X12_book at hq
  refine J_aload_n (pc := 0) X (j := 0) (i := 0) rfl rfl dX12_book_0 ?_
  refine J_iload_n (pc := 1) X (j := 1) (i := 1) rfl rfl dX12_book_1 ?_
  obtain ⟨v2, h1, hc, hq⟩ := bnd_e hq
  refine J_callV (pc := 2) (as := [.inl x1]) (st := []) (st2 := [.inl v2]) (r1 := (some (.inl v2), h1)) (h2 := h1) (ky := 2) X dX12_book_2 ca_X12_isBeginningOrAll ci_X12_isBeginningOrAll cs_X12_isBeginningOrAll ml_12_176 (by decide) ly1 rfl rfl (m_X12_isBeginningOrAll _ _ _ hc) rfl rfl (Nat.le_of_ble_eq_true rfl) rfl rfl ?_
  refine J_if_ne (pc := 5) (tgt := 10) X dX12_book_5 rfl (fun c3 => ?_) (fun c3 => ?_)
  · have hq := ite_f hq c3
    refine J_iconst (pc := 10) X (v := 0) (by decide) dX12_book_10 ?_
    refine J_istore_n (pc := 11) X (L' := [(2, .inl 0), (0, .inr (.inr 1)), (1, .inl x1)]) (i := 2) rfl (by decide) rfl dX12_book_11 ?_
    refine J_iconst (pc := 12) X (v := 0) (by decide) dX12_book_12 ?_
    refine J_istore_n (pc := 13) X (L' := [(3, .inl 0), (2, .inl 0), (0, .inr (.inr 1)), (1, .inl x1)]) (i := 3) rfl (by decide) rfl dX12_book_13 ?_
    refine J_sub [2, 3, 1, 0] rfl ?_
    refine tL_X12_book_14 X _ _ N0 _ _ _ _ ?_ hq
    · intro v13 h12 q hq
      refine J_iload_n (pc := 83) X (j := 0) (i := 2) rfl rfl dX12_book_83 ?_
      obtain rfl := Option.some.inj hq
      exact J_iret (pc := 84) X dX12_book_84
  · have hq := ite_t hq c3
    refine J_iconst (pc := 8) X (v := (-1)) (by decide) dX12_book_8 ?_
    obtain rfl := Option.some.inj hq
    exact J_iret (pc := 9) X dX12_book_9
theorem m_X12_book (x1 : Int32) (h : Hp) (q : (Int32 × Hp)) (hq : f_X12_book x1 h = some q) : ∀ l w, CT l w yX12_book cX12_book 5 (some .int) 5 [.inr (.inr 1), .inl x1] h (some (.inl q.1), q.2) :=
  CT_of (L0 := [(0, .inr (.inr 1)), (1, .inl x1)]) (by decide) rfl (Nat.le_of_ble_eq_true rfl) (fun κ X => tf_X12_book X x1 h q  hq)
theorem tf_X12_image {κ : Kx} (X : OK κ cX12_image 2 (some .boolean) "StruckWords" 5) (x1 : Int32) (h : Hp) (q : (Int32 × Hp)) (hq : f_X12_image x1 h = some q) : J κ 0 [(0, .inr (.inr 1)), (1, .inl x1)] [] h (some (.inl q.1), q.2) := by
  delta f_X12_image at hq
  refine J_iload_n (pc := 0) X (j := 1) (i := 1) rfl rfl dX12_image_0 ?_
  refine J_if_lt (pc := 1) (tgt := 9) X dX12_image_1 rfl (fun c1 => ?_) (fun c1 => ?_)
  · have hq := ite_t hq c1
    refine J_iconst (pc := 9) X (v := 0) (by decide) dX12_image_9 ?_
    obtain rfl := Option.some.inj hq
    exact J_zret (pc := 10) X (by decide) dX12_image_10
  · have hq := ite_f hq c1
    refine J_iload_n (pc := 4) X (j := 1) (i := 1) rfl rfl dX12_image_4 ?_
    refine J_iconst (pc := 5) X (v := 2) (by decide) dX12_image_5 ?_
    refine J_icmp_lt (pc := 6) (tgt := 11) X dX12_image_6 rfl (fun c2 => ?_) (fun c2 => ?_)
    · have hq := ite_t hq c2
      refine J_aload_n (pc := 11) X (j := 0) (i := 0) rfl rfl dX12_image_11 ?_
      refine J_getF (pc := 12) X (b := 41) ly1 fl_12_32 rfl dX12_image_12 ?_
      refine J_iload_n (pc := 15) X (j := 1) (i := 1) rfl rfl dX12_image_15 ?_
      obtain ⟨g3, hq⟩ := gd hq
      refine J_aaloadM (pc := 16) X ly41 g3 dX12_image_16 ?_
      refine J_aload_n (pc := 17) X (j := 0) (i := 0) rfl rfl dX12_image_17 ?_
      refine J_getF (pc := 18) X (b := 6) ly1 fl_12_28 rfl dX12_image_18 ?_
      obtain ⟨h4, hc, hq⟩ := bnv_e hq
      refine J_callV (pc := 21) (as := [.inr (.inr 6)]) (st := []) (st2 := []) (r1 := (none, h4)) (h2 := h4) (ky := 4) X dX12_image_21 ca_X5_copyFrom ci_X5_copyFrom cs_X5_copyFrom ml_12_326 (by decide) (ly_im ly41 _ (inb_lt g3)) rfl rfl (m_X5_copyFrom _ _ _ _ (ly_im ly41 _ (inb_lt g3)) ly6 hc) rfl rfl (Nat.le_of_ble_eq_true rfl) rfl rfl ?_
      refine J_aload_n (pc := 24) X (j := 0) (i := 0) rfl rfl dX12_image_24 ?_
      refine J_getF (pc := 25) X (b := 112) ly1 fl_12_36 rfl dX12_image_25 ?_
      refine J_iload_n (pc := 28) X (j := 1) (i := 1) rfl rfl dX12_image_28 ?_
      refine J_iconst (pc := 29) X (v := 1) (by decide) dX12_image_29 ?_
      obtain ⟨g5, hq⟩ := gd hq
      refine J_zastore (pc := 30) X ly112 g5 dX12_image_30 ?_
      refine J_ltH hq (fun h6 hq => ?_)
      refine J_iconst (pc := 31) X (v := 1) (by decide) dX12_image_31 ?_
      obtain rfl := Option.some.inj hq
      exact J_zret (pc := 32) X (by decide) dX12_image_32
    · have hq := ite_f hq c2
      refine J_iconst (pc := 9) X (v := 0) (by decide) dX12_image_9 ?_
      obtain rfl := Option.some.inj hq
      exact J_zret (pc := 10) X (by decide) dX12_image_10
theorem m_X12_image (x1 : Int32) (h : Hp) (q : (Int32 × Hp)) (hq : f_X12_image x1 h = some q) : ∀ l w, CT l w yX12_image cX12_image 2 (some .boolean) 5 [.inr (.inr 1), .inl x1] h (some (.inl q.1), q.2) :=
  CT_of (L0 := [(0, .inr (.inr 1)), (1, .inl x1)]) (by decide) rfl (Nat.le_of_ble_eq_true rfl) (fun κ X => tf_X12_image X x1 h q  hq)
theorem tf_X12_restore {κ : Kx} (X : OK κ cX12_restore 2 (some .boolean) "StruckWords" 5) (x1 : Int32) (h : Hp) (q : (Int32 × Hp)) (hq : f_X12_restore x1 h = some q) : J κ 0 [(0, .inr (.inr 1)), (1, .inl x1)] [] h (some (.inl q.1), q.2) := by
  delta f_X12_restore at hq
  refine J_iload_n (pc := 0) X (j := 1) (i := 1) rfl rfl dX12_restore_0 ?_
  refine J_if_lt (pc := 1) (tgt := 18) X dX12_restore_1 rfl (fun c1 => ?_) (fun c1 => ?_)
  · have hq := ite_t hq c1
    refine J_iconst (pc := 18) X (v := 0) (by decide) dX12_restore_18 ?_
    obtain rfl := Option.some.inj hq
    exact J_zret (pc := 19) X (by decide) dX12_restore_19
  · have hq := ite_f hq c1
    refine J_iload_n (pc := 4) X (j := 1) (i := 1) rfl rfl dX12_restore_4 ?_
    refine J_iconst (pc := 5) X (v := 2) (by decide) dX12_restore_5 ?_
    refine J_icmp_ge (pc := 6) (tgt := 18) X dX12_restore_6 rfl (fun c2 => ?_) (fun c2 => ?_)
    · have hq := ite_t hq c2
      refine J_iconst (pc := 18) X (v := 0) (by decide) dX12_restore_18 ?_
      obtain rfl := Option.some.inj hq
      exact J_zret (pc := 19) X (by decide) dX12_restore_19
    · have hq := ite_f hq c2
      refine J_aload_n (pc := 9) X (j := 0) (i := 0) rfl rfl dX12_restore_9 ?_
      refine J_getF (pc := 10) X (b := 112) ly1 fl_12_36 rfl dX12_restore_10 ?_
      refine J_iload_n (pc := 13) X (j := 1) (i := 1) rfl rfl dX12_restore_13 ?_
      obtain ⟨g3, hq⟩ := gd hq
      refine J_zaload (pc := 14) X ly112 g3 dX12_restore_14 ?_
      refine J_if_ne (pc := 15) (tgt := 20) X dX12_restore_15 rfl (fun c4 => ?_) (fun c4 => ?_)
      · have hq := ite_f hq c4
        refine J_aload_n (pc := 20) X (j := 0) (i := 0) rfl rfl dX12_restore_20 ?_
        refine J_getF (pc := 21) X (b := 6) ly1 fl_12_28 rfl dX12_restore_21 ?_
        refine J_aload_n (pc := 24) X (j := 0) (i := 0) rfl rfl dX12_restore_24 ?_
        refine J_getF (pc := 25) X (b := 41) ly1 fl_12_32 rfl dX12_restore_25 ?_
        refine J_iload_n (pc := 28) X (j := 1) (i := 1) rfl rfl dX12_restore_28 ?_
        obtain ⟨g5, hq⟩ := gd hq
        refine J_aaloadM (pc := 29) X ly41 g5 dX12_restore_29 ?_
        obtain ⟨h6, hc, hq⟩ := bnv_e hq
        refine J_callV (pc := 30) (as := [.inr (.inr (41 + 1 + 35 * x1.toNatClampNeg))]) (st := []) (st2 := []) (r1 := (none, h6)) (h2 := h6) (ky := 4) X dX12_restore_30 ca_X5_copyFrom ci_X5_copyFrom cs_X5_copyFrom ml_12_326 (by decide) ly6 rfl rfl (m_X5_copyFrom _ _ _ _ ly6 (ly_im ly41 _ (inb_lt g5)) hc) rfl rfl (Nat.le_of_ble_eq_true rfl) rfl rfl ?_
        refine J_iconst (pc := 33) X (v := 1) (by decide) dX12_restore_33 ?_
        obtain rfl := Option.some.inj hq
        exact J_zret (pc := 34) X (by decide) dX12_restore_34
      · have hq := ite_t hq c4
        refine J_iconst (pc := 18) X (v := 0) (by decide) dX12_restore_18 ?_
        obtain rfl := Option.some.inj hq
        exact J_zret (pc := 19) X (by decide) dX12_restore_19
theorem m_X12_restore (x1 : Int32) (h : Hp) (q : (Int32 × Hp)) (hq : f_X12_restore x1 h = some q) : ∀ l w, CT l w yX12_restore cX12_restore 2 (some .boolean) 5 [.inr (.inr 1), .inl x1] h (some (.inl q.1), q.2) :=
  CT_of (L0 := [(0, .inr (.inr 1)), (1, .inl x1)]) (by decide) rfl (Nat.le_of_ble_eq_true rfl) (fun κ X => tf_X12_restore X x1 h q  hq)
theorem tf_X12_count {κ : Kx} (X : OK κ cX12_count 2 (some .int) "StruckWords" 1) (x1 : Int32) (h : Hp) (q : (Int32 × Hp)) (hq : f_X12_count x1 h = some q) : J κ 0 [(0, .inr (.inr 1)), (1, .inl x1)] [] h (some (.inl q.1), q.2) := by
  delta f_X12_count at hq
  refine J_iload_n (pc := 0) X (j := 1) (i := 1) rfl rfl dX12_count_0 ?_
  by_cases c1 : x1 = 0
  · have hq := ite_t hq c1
    refine J_tsIn (pc := 1) (tgt := 48) X dX12_count_1 (0) (by rw [c1]; rfl) (by decide) (by decide) rfl rfl ?_
    refine J_aload_n (pc := 48) X (j := 0) (i := 0) rfl rfl dX12_count_48 ?_
    refine J_getF (pc := 49) X (b := 6) ly1 fl_12_28 rfl dX12_count_49 ?_
    refine J_getF (pc := 52) X (b := 7) ly6 fl_12_95 rfl dX12_count_52 ?_
    refine J_getI (pc := 55) X ly7 fl_12_329 dX12_count_55 ?_
    obtain rfl := Option.some.inj hq
    exact J_iret (pc := 58) X dX12_count_58
  · have hq := ite_f hq c1
    by_cases c2 : x1 = 1
    · have hq := ite_t hq c2
      refine J_tsIn (pc := 1) (tgt := 59) X dX12_count_1 (1) (by rw [c2]; rfl) (by decide) (by decide) rfl rfl ?_
      refine J_aload_n (pc := 59) X (j := 0) (i := 0) rfl rfl dX12_count_59 ?_
      refine J_getF (pc := 60) X (b := 6) ly1 fl_12_28 rfl dX12_count_60 ?_
      refine J_getF (pc := 63) X (b := 7) ly6 fl_12_95 rfl dX12_count_63 ?_
      refine J_getI (pc := 66) X ly7 fl_12_207 dX12_count_66 ?_
      obtain rfl := Option.some.inj hq
      exact J_iret (pc := 69) X dX12_count_69
    · have hq := ite_f hq c2
      by_cases c3 : x1 = 2
      · have hq := ite_t hq c3
        refine J_tsIn (pc := 1) (tgt := 70) X dX12_count_1 (2) (by rw [c3]; rfl) (by decide) (by decide) rfl rfl ?_
        refine J_aload_n (pc := 70) X (j := 0) (i := 0) rfl rfl dX12_count_70 ?_
        refine J_getF (pc := 71) X (b := 6) ly1 fl_12_28 rfl dX12_count_71 ?_
        refine J_getF (pc := 74) X (b := 7) ly6 fl_12_95 rfl dX12_count_74 ?_
        refine J_getI (pc := 77) X ly7 fl_12_159 dX12_count_77 ?_
        obtain rfl := Option.some.inj hq
        exact J_iret (pc := 80) X dX12_count_80
      · have hq := ite_f hq c3
        by_cases c4 : x1 = 3
        · have hq := ite_t hq c4
          refine J_tsIn (pc := 1) (tgt := 81) X dX12_count_1 (3) (by rw [c4]; rfl) (by decide) (by decide) rfl rfl ?_
          refine J_aload_n (pc := 81) X (j := 0) (i := 0) rfl rfl dX12_count_81 ?_
          refine J_getF (pc := 82) X (b := 6) ly1 fl_12_28 rfl dX12_count_82 ?_
          refine J_getF (pc := 85) X (b := 7) ly6 fl_12_95 rfl dX12_count_85 ?_
          refine J_getF (pc := 88) X (b := 9) ly7 fl_12_210 rfl dX12_count_88 ?_
          refine J_getI (pc := 91) X ly9 fl_12_214 dX12_count_91 ?_
          obtain rfl := Option.some.inj hq
          exact J_iret (pc := 94) X dX12_count_94
        · have hq := ite_f hq c4
          by_cases c5 : x1 = 4
          · have hq := ite_t hq c5
            refine J_tsIn (pc := 1) (tgt := 95) X dX12_count_1 (4) (by rw [c5]; rfl) (by decide) (by decide) rfl rfl ?_
            refine J_aload_n (pc := 95) X (j := 0) (i := 0) rfl rfl dX12_count_95 ?_
            refine J_getF (pc := 96) X (b := 6) ly1 fl_12_28 rfl dX12_count_96 ?_
            refine J_getF (pc := 99) X (b := 7) ly6 fl_12_95 rfl dX12_count_99 ?_
            refine J_getF (pc := 102) X (b := 9) ly7 fl_12_210 rfl dX12_count_102 ?_
            refine J_getI (pc := 105) X ly9 fl_12_332 dX12_count_105 ?_
            obtain rfl := Option.some.inj hq
            exact J_iret (pc := 108) X dX12_count_108
          · have hq := ite_f hq c5
            by_cases c6 : x1 = 5
            · have hq := ite_t hq c6
              refine J_tsIn (pc := 1) (tgt := 109) X dX12_count_1 (5) (by rw [c6]; rfl) (by decide) (by decide) rfl rfl ?_
              refine J_aload_n (pc := 109) X (j := 0) (i := 0) rfl rfl dX12_count_109 ?_
              refine J_getF (pc := 110) X (b := 6) ly1 fl_12_28 rfl dX12_count_110 ?_
              refine J_getF (pc := 113) X (b := 18) ly6 fl_12_149 rfl dX12_count_113 ?_
              refine J_getI (pc := 116) X ly18 fl_12_74 dX12_count_116 ?_
              obtain rfl := Option.some.inj hq
              exact J_iret (pc := 119) X dX12_count_119
            · have hq := ite_f hq c6
              by_cases c7 : x1 = 6
              · have hq := ite_t hq c7
                refine J_tsIn (pc := 1) (tgt := 120) X dX12_count_1 (6) (by rw [c7]; rfl) (by decide) (by decide) rfl rfl ?_
                refine J_aload_n (pc := 120) X (j := 0) (i := 0) rfl rfl dX12_count_120 ?_
                refine J_getF (pc := 121) X (b := 6) ly1 fl_12_28 rfl dX12_count_121 ?_
                refine J_getI (pc := 124) X ly6 fl_12_319 dX12_count_124 ?_
                obtain rfl := Option.some.inj hq
                exact J_iret (pc := 127) X dX12_count_127
              · have hq := ite_f hq c7
                by_cases c8 : x1 = 7
                · have hq := ite_t hq c8
                  refine J_tsIn (pc := 1) (tgt := 128) X dX12_count_1 (7) (by rw [c8]; rfl) (by decide) (by decide) rfl rfl ?_
                  refine J_aload_n (pc := 128) X (j := 0) (i := 0) rfl rfl dX12_count_128 ?_
                  refine J_getF (pc := 129) X (b := 2) ly1 fl_12_14 rfl dX12_count_129 ?_
                  refine J_getI (pc := 132) X ly2 fl_12_74 dX12_count_132 ?_
                  obtain rfl := Option.some.inj hq
                  exact J_iret (pc := 135) X dX12_count_135
                · have hq := ite_f hq c8
                  refine J_tsOut (pc := 1) (tgt := 136) X dX12_count_1 (by
                      have e0 := ne_toInt c1; rw [show (0 : Int32).toInt = 0 from rfl] at e0
                      have e1 := ne_toInt c2; rw [show (1 : Int32).toInt = 1 from rfl] at e1
                      have e2 := ne_toInt c3; rw [show (2 : Int32).toInt = 2 from rfl] at e2
                      have e3 := ne_toInt c4; rw [show (3 : Int32).toInt = 3 from rfl] at e3
                      have e4 := ne_toInt c5; rw [show (4 : Int32).toInt = 4 from rfl] at e4
                      have e5 := ne_toInt c6; rw [show (5 : Int32).toInt = 5 from rfl] at e5
                      have e6 := ne_toInt c7; rw [show (6 : Int32).toInt = 6 from rfl] at e6
                      have e7 := ne_toInt c8; rw [show (7 : Int32).toInt = 7 from rfl] at e7
                      omega) rfl ?_
                  refine J_iconst (pc := 136) X (v := (-1)) (by decide) dX12_count_136 ?_
                  obtain rfl := Option.some.inj hq
                  exact J_iret (pc := 137) X dX12_count_137
theorem m_X12_count (x1 : Int32) (h : Hp) (q : (Int32 × Hp)) (hq : f_X12_count x1 h = some q) : ∀ l w, CT l w yX12_count cX12_count 2 (some .int) 1 [.inr (.inr 1), .inl x1] h (some (.inl q.1), q.2) :=
  CT_of (L0 := [(0, .inr (.inr 1)), (1, .inl x1)]) (by decide) rfl (Nat.le_of_ble_eq_true rfl) (fun κ X => tf_X12_count X x1 h q  hq)
theorem tF_X12_inLeastNumbers_2 {κ : Kx} (X : OK κ cX12_inLeastNumbers 4 (some .int) "StruckWords" 1) (x0 : Int32) (x1 : Int32) (x2 : Int32) (k19 : Int32 → Hp → Option (Int32 × Hp)) (k29 : Hp → Option (Int32 × Hp)) (self : Int32 → Hp → Option (Int32 × Hp)) (x3 : Int32) (h : Hp) (q : (Int32 × Hp)) (hk19 : ∀ (x3 : Int32) (h : Hp) (q : (Int32 × Hp)), k19 x3 h = some q → J κ 19 [(0, .inl x0), (3, .inl x3)] [] h (some (.inl q.1), q.2)) (hk29 : ∀ (h : Hp) (q : (Int32 × Hp)), k29 h = some q → J κ 29 [(0, .inl x0)] [] h (some (.inl q.1), q.2)) (hself : ∀ (x3 : Int32) (h : Hp) (q : (Int32 × Hp)), self x3 h = some q → J κ 2 [(0, .inl x0), (1, .inl x1), (2, .inl x2), (3, .inl x3)] [] h (some (.inl q.1), q.2)) (hq : F_X12_inLeastNumbers_2 x0 x1 x2 k19 k29 self x3 h = some q) : J κ 2 [(0, .inl x0), (1, .inl x1), (2, .inl x2), (3, .inl x3)] [] h (some (.inl q.1), q.2) := by
  delta F_X12_inLeastNumbers_2 at hq
  refine J_iload_n (pc := 2) X (j := 3) (i := 3) rfl rfl dX12_inLeastNumbers_2 ?_
  refine J_iconst (pc := 3) X (v := 1) (by decide) dX12_inLeastNumbers_3 ?_
  refine J_icmp_le (pc := 4) (tgt := 29) X dX12_inLeastNumbers_4 rfl (fun c1 => ?_) (fun c1 => ?_)
  · have hq := ite_t hq c1
    refine J_sub [0] rfl ?_
    exact hk29 _ _ hq
  · have hq := ite_f hq c1
    refine J_iload_n (pc := 7) X (j := 1) (i := 1) rfl rfl dX12_inLeastNumbers_7 ?_
    refine J_iload_n (pc := 8) X (j := 3) (i := 3) rfl rfl dX12_inLeastNumbers_8 ?_
    obtain ⟨g2, hq⟩ := gd hq
    refine J_irem (pc := 9) X (nz_ne g2) dX12_inLeastNumbers_9 ?_
    refine J_if_ne (pc := 10) (tgt := 23) X dX12_inLeastNumbers_10 rfl (fun c3 => ?_) (fun c3 => ?_)
    · have hq := ite_f hq c3
      refine J_iinc (pc := 23) X (j := 3) (v := (-1)) (L' := [(3, .inl (x3 + (-1))), (0, .inl x0), (1, .inl x1), (2, .inl x2)]) rfl (by decide) (by decide) rfl dX12_inLeastNumbers_23 ?_
      refine J_goto (pc := 26) X (tgt := 2) dX12_inLeastNumbers_26 rfl ?_
      refine J_sub [1, 2, 3, 0] rfl ?_
      exact hself _ _ _ hq
    · have hq := ite_t hq c3
      refine J_iload_n (pc := 13) X (j := 2) (i := 2) rfl rfl dX12_inLeastNumbers_13 ?_
      refine J_iload_n (pc := 14) X (j := 3) (i := 3) rfl rfl dX12_inLeastNumbers_14 ?_
      obtain ⟨g4, hq⟩ := gd hq
      refine J_irem (pc := 15) X (nz_ne g4) dX12_inLeastNumbers_15 ?_
      refine J_if_ne (pc := 16) (tgt := 23) X dX12_inLeastNumbers_16 rfl (fun c5 => ?_) (fun c5 => ?_)
      · have hq := ite_f hq c5
        refine J_iinc (pc := 23) X (j := 3) (v := (-1)) (L' := [(3, .inl (x3 + (-1))), (0, .inl x0), (1, .inl x1), (2, .inl x2)]) rfl (by decide) (by decide) rfl dX12_inLeastNumbers_23 ?_
        refine J_goto (pc := 26) X (tgt := 2) dX12_inLeastNumbers_26 rfl ?_
        refine J_sub [1, 2, 3, 0] rfl ?_
        exact hself _ _ _ hq
      · have hq := ite_t hq c5
        refine J_sub [0, 3] rfl ?_
        exact hk19 _ _ _ hq
theorem tL_X12_inLeastNumbers_2 {κ : Kx} (X : OK κ cX12_inLeastNumbers 4 (some .int) "StruckWords" 1) (x0 : Int32) (x1 : Int32) (x2 : Int32) (k19 : Int32 → Hp → Option (Int32 × Hp)) (k29 : Hp → Option (Int32 × Hp)) (N : Nat) (x3 : Int32) (h : Hp) (q : (Int32 × Hp)) (hk19 : ∀ (x3 : Int32) (h : Hp) (q : (Int32 × Hp)), k19 x3 h = some q → J κ 19 [(0, .inl x0), (3, .inl x3)] [] h (some (.inl q.1), q.2)) (hk29 : ∀ (h : Hp) (q : (Int32 × Hp)), k29 h = some q → J κ 29 [(0, .inl x0)] [] h (some (.inl q.1), q.2)) (hq : itr2 (F_X12_inLeastNumbers_2 x0 x1 x2 k19 k29) N x3 h = some q) : J κ 2 [(0, .inl x0), (1, .inl x1), (2, .inl x2), (3, .inl x3)] [] h (some (.inl q.1), q.2) :=
  itr2_ind (fun self hs x3 h q hq => tF_X12_inLeastNumbers_2 X x0 x1 x2 k19 k29 self x3 h q hk19 hk29 hs hq) N x3 h q hq
theorem tf_X12_inLeastNumbers {κ : Kx} (X : OK κ cX12_inLeastNumbers 4 (some .int) "StruckWords" 1) (x0 : Int32) (x1 : Int32) (x2 : Int32) (h : Hp) (q : (Int32 × Hp)) (hq : f_X12_inLeastNumbers x0 x1 x2 h = some q) : J κ 0 [(0, .inl x0), (1, .inl x1), (2, .inl x2)] [] h (some (.inl q.1), q.2) := by
  delta f_X12_inLeastNumbers at hq
  refine J_iload_n (pc := 0) X (j := 2) (i := 2) rfl rfl dX12_inLeastNumbers_0 ?_
  refine J_istore_n (pc := 1) X (L' := [(3, .inl x2), (0, .inl x0), (1, .inl x1), (2, .inl x2)]) (i := 3) rfl (by decide) rfl dX12_inLeastNumbers_1 ?_
  refine J_sub [1, 2, 3, 0] rfl ?_
  refine tL_X12_inLeastNumbers_2 X _ _ _ _ _ N0 _ _ _ ?_ ?_ hq
  · intro v7 h6 q hq
    refine J_iload_n (pc := 19) X (j := 0) (i := 0) rfl rfl dX12_inLeastNumbers_19 ?_
    refine J_iload_n (pc := 20) X (j := 1) (i := 3) rfl rfl dX12_inLeastNumbers_20 ?_
    obtain ⟨g8, hq⟩ := gd hq
    refine J_idiv (pc := 21) X (nz_ne g8) dX12_inLeastNumbers_21 ?_
    obtain rfl := Option.some.inj hq
    exact J_iret (pc := 22) X dX12_inLeastNumbers_22
  · intro h9 q hq
    refine J_iload_n (pc := 29) X (j := 0) (i := 0) rfl rfl dX12_inLeastNumbers_29 ?_
    obtain rfl := Option.some.inj hq
    exact J_iret (pc := 30) X dX12_inLeastNumbers_30
theorem m_X12_inLeastNumbers (x0 : Int32) (x1 : Int32) (x2 : Int32) (h : Hp) (q : (Int32 × Hp)) (hq : f_X12_inLeastNumbers x0 x1 x2 h = some q) : ∀ l w, CT l w yX12_inLeastNumbers cX12_inLeastNumbers 4 (some .int) 1 [.inl x0, .inl x1, .inl x2] h (some (.inl q.1), q.2) :=
  CT_of (L0 := [(0, .inl x0), (1, .inl x1), (2, .inl x2)]) (by decide) rfl (Nat.le_of_ble_eq_true rfl) (fun κ X => tf_X12_inLeastNumbers X x0 x1 x2 h q  hq)
theorem tf_X13_thrown {κ : Kx} (X : OK κ cX13_thrown 1 (some .int) "StruckWordsModel" 1) (h : Hp) (q : (Int32 × Hp)) (hq : f_X13_thrown h = some q) : J κ 0 [(0, .inr (.inr 155))] [] h (some (.inl q.1), q.2) := by
  delta f_X13_thrown at hq
  refine J_aload_n (pc := 0) X (j := 0) (i := 0) rfl rfl dX13_thrown_0 ?_
  refine J_getI (pc := 1) X ly155 fl_13_1 dX13_thrown_1 ?_
  obtain rfl := Option.some.inj hq
  exact J_iret (pc := 4) X dX13_thrown_4
theorem m_X13_thrown (h : Hp) (q : (Int32 × Hp)) (hq : f_X13_thrown  h = some q) : ∀ l w, CT l w yX13_thrown cX13_thrown 1 (some .int) 1 [.inr (.inr 155)] h (some (.inl q.1), q.2) :=
  CT_of (L0 := [(0, .inr (.inr 155))]) (by decide) rfl (Nat.le_of_ble_eq_true rfl) (fun κ X => tf_X13_thrown X  h q  hq)
theorem tB_X13_throwsIf_10 {κ : Kx} (X : OK κ cX13_throwsIf 2 (some .boolean) "StruckWordsModel" 1) (x1 : Int32) (t0 : Int32) (h : Hp) (q : (Int32 × Hp)) (hq : B_X13_throwsIf_10 x1 t0 h = some q) : J κ 10 [(1, .inl x1)] [.inl t0, .inr (.inr 155)] h (some (.inl q.1), q.2) := by
  delta B_X13_throwsIf_10 at hq
  refine J_putI (pc := 10) X ly155 fp_13_1 dX13_throwsIf_10 ?_
  refine J_ltH hq (fun h2 hq => ?_)
  refine J_iload_n (pc := 13) X (j := 0) (i := 1) rfl rfl dX13_throwsIf_13 ?_
  obtain ⟨g3, hq⟩ := gd hq
  obtain rfl := Option.some.inj hq
  exact J_zret (pc := 14) X g3 dX13_throwsIf_14
theorem tf_X13_throwsIf {κ : Kx} (X : OK κ cX13_throwsIf 2 (some .boolean) "StruckWordsModel" 1) (x1 : Int32) (h : Hp) (q : (Int32 × Hp)) (hq : f_X13_throwsIf x1 h = some q) : J κ 0 [(0, .inr (.inr 155)), (1, .inl x1)] [] h (some (.inl q.1), q.2) := by
  delta f_X13_throwsIf at hq
  refine J_aload_n (pc := 0) X (j := 0) (i := 0) rfl rfl dX13_throwsIf_0 ?_
  refine J_iload_n (pc := 1) X (j := 1) (i := 1) rfl rfl dX13_throwsIf_1 ?_
  refine J_if_eq (pc := 2) (tgt := 9) X dX13_throwsIf_2 rfl (fun c1 => ?_) (fun c1 => ?_)
  · have hq := ite_t hq c1
    refine J_iconst (pc := 9) X (v := 0) (by decide) dX13_throwsIf_9 ?_
    refine J_sub [1] rfl ?_
    exact tB_X13_throwsIf_10 X _ _ _ _ hq
  · have hq := ite_f hq c1
    refine J_iconst (pc := 5) X (v := 1) (by decide) dX13_throwsIf_5 ?_
    refine J_goto (pc := 6) X (tgt := 10) dX13_throwsIf_6 rfl ?_
    refine J_sub [1] rfl ?_
    exact tB_X13_throwsIf_10 X _ _ _ _ hq
theorem m_X13_throwsIf (x1 : Int32) (h : Hp) (q : (Int32 × Hp)) (hq : f_X13_throwsIf x1 h = some q) : ∀ l w, CT l w yX13_throwsIf cX13_throwsIf 2 (some .boolean) 1 [.inr (.inr 155), .inl x1] h (some (.inl q.1), q.2) :=
  CT_of (L0 := [(0, .inr (.inr 155)), (1, .inl x1)]) (by decide) rfl (Nat.le_of_ble_eq_true rfl) (fun κ X => tf_X13_throwsIf X x1 h q  hq)
theorem tF_X13_four_3 {κ : Kx} (X : OK κ cX13_four 3 (none) "StruckWordsModel" 1) (x1 : Int32) (k36 : Hp → Option Hp) (self : Int32 → Hp → Option Hp) (x2 : Int32) (h : Hp) (q : Hp) (hk36 : ∀ (h : Hp) (q : Hp), k36 h = some q → J κ 36 [] [] h (none, q)) (hself : ∀ (x2 : Int32) (h : Hp) (q : Hp), self x2 h = some q → J κ 3 [(0, .inr (.inr 155)), (1, .inl x1), (2, .inl x2)] [] h (none, q)) (hq : F_X13_four_3 x1 k36 self x2 h = some q) : J κ 3 [(0, .inr (.inr 155)), (1, .inl x1), (2, .inl x2)] [] h (none, q) := by
  delta F_X13_four_3 at hq
  refine J_iload_n (pc := 3) X (j := 2) (i := 2) rfl rfl dX13_four_3 ?_
  refine J_if_lt (pc := 4) (tgt := 36) X dX13_four_4 rfl (fun c1 => ?_) (fun c1 => ?_)
  · have hq := ite_t hq c1
    refine J_sub [] rfl ?_
    exact hk36 _ _ hq
  · have hq := ite_f hq c1
    refine J_aload_n (pc := 7) X (j := 0) (i := 0) rfl rfl dX13_four_7 ?_
    refine J_getF (pc := 8) X (b := 156) ly155 fl_13_14 rfl dX13_four_8 ?_
    refine J_aload_n (pc := 11) X (j := 0) (i := 0) rfl rfl dX13_four_11 ?_
    refine J_getI (pc := 12) X ly155 fl_13_7 dX13_four_12 ?_
    refine J_iload_n (pc := 15) X (j := 1) (i := 1) rfl rfl dX13_four_15 ?_
    refine J_iload_n (pc := 16) X (j := 2) (i := 2) rfl rfl dX13_four_16 ?_
    refine J_ishr (pc := 17) X dX13_four_17 ?_
    refine J_i2b (pc := 18) X dX13_four_18 ?_
    obtain ⟨g2, hq⟩ := gd hq
    refine J_bastore (pc := 19) X ly156 g2 dX13_four_19 ?_
    refine J_ltH hq (fun h3 hq => ?_)
    refine J_aload_n (pc := 20) X (j := 0) (i := 0) rfl rfl dX13_four_20 ?_
    refine J_dup (pc := 21) X rfl dX13_four_21 ?_
    refine J_getI (pc := 22) X ly155 fl_13_7 dX13_four_22 ?_
    refine J_iconst (pc := 25) X (v := 1) (by decide) dX13_four_25 ?_
    refine J_iadd (pc := 26) X dX13_four_26 ?_
    refine J_putI (pc := 27) X ly155 fp_13_7 dX13_four_27 ?_
    refine J_ltH hq (fun h4 hq => ?_)
    refine J_iinc (pc := 30) X (j := 2) (v := (-8)) (L' := [(2, .inl (x2 + (-8))), (0, .inr (.inr 155)), (1, .inl x1)]) rfl (by decide) (by decide) rfl dX13_four_30 ?_
    refine J_goto (pc := 33) X (tgt := 3) dX13_four_33 rfl ?_
    refine J_sub [1, 2, 0] rfl ?_
    exact hself _ _ _ hq
theorem tL_X13_four_3 {κ : Kx} (X : OK κ cX13_four 3 (none) "StruckWordsModel" 1) (x1 : Int32) (k36 : Hp → Option Hp) (N : Nat) (x2 : Int32) (h : Hp) (q : Hp) (hk36 : ∀ (h : Hp) (q : Hp), k36 h = some q → J κ 36 [] [] h (none, q)) (hq : itr2 (F_X13_four_3 x1 k36) N x2 h = some q) : J κ 3 [(0, .inr (.inr 155)), (1, .inl x1), (2, .inl x2)] [] h (none, q) :=
  itr2_ind (fun self hs x2 h q hq => tF_X13_four_3 X x1 k36 self x2 h q hk36 hs hq) N x2 h q hq
theorem tf_X13_four {κ : Kx} (X : OK κ cX13_four 3 (none) "StruckWordsModel" 1) (x1 : Int32) (h : Hp) (q : Hp) (hq : f_X13_four x1 h = some q) : J κ 0 [(0, .inr (.inr 155)), (1, .inl x1)] [] h (none, q) := by
  delta f_X13_four at hq
  refine J_bipush (pc := 0) X (v := 24) (by decide) dX13_four_0 ?_
  refine J_istore_n (pc := 2) X (L' := [(2, .inl 24), (0, .inr (.inr 155)), (1, .inl x1)]) (i := 2) rfl (by decide) rfl dX13_four_2 ?_
  refine J_sub [1, 2, 0] rfl ?_
  refine tL_X13_four_3 X _ _ N0 _ _ _ ?_ hq
  · intro h5 q hq
    obtain rfl := Option.some.inj hq
    exact J_vret (pc := 36) X dX13_four_36
theorem m_X13_four (x1 : Int32) (h : Hp) (q : Hp) (hq : f_X13_four x1 h = some q) : ∀ l w, CT l w yX13_four cX13_four 3 (none) 1 [.inr (.inr 155), .inl x1] h (none, q) :=
  CT_of (L0 := [(0, .inr (.inr 155)), (1, .inl x1)]) (by decide) rfl (Nat.le_of_ble_eq_true rfl) (fun κ X => tf_X13_four X x1 h q  hq)
theorem tf_X13_feed {κ : Kx} (X : OK κ cX13_feed 6 (some .int) "StruckWordsModel" 2) (x1 : Int32) (x2 : Int32) (x3 : Int32) (x4 : Int32) (x5 : Int32) (h : Hp) (q : (Int32 × Hp)) (hq : f_X13_feed x1 x2 x3 x4 x5 h = some q) : J κ 0 [(0, .inr (.inr 155)), (1, .inl x1), (2, .inl x2), (3, .inl x3), (4, .inl x4), (5, .inl x5)] [] h (some (.inl q.1), q.2) := by
  delta f_X13_feed at hq
  refine J_aload_n (pc := 0) X (j := 0) (i := 0) rfl rfl dX13_feed_0 ?_
  refine J_iconst (pc := 1) X (v := 0) (by decide) dX13_feed_1 ?_
  refine J_putI (pc := 2) X ly155 fp_13_1 dX13_feed_2 ?_
  refine J_ltH hq (fun h1 hq => ?_)
  refine J_aload_n (pc := 5) X (j := 0) (i := 0) rfl rfl dX13_feed_5 ?_
  refine J_getI (pc := 6) X ly155 fl_13_7 dX13_feed_6 ?_
  refine J_bipush (pc := 9) X (v := 20) (by decide) dX13_feed_9 ?_
  refine J_iadd (pc := 11) X dX13_feed_11 ?_
  refine J_sipush (pc := 12) X (v := 940) (by decide) dX13_feed_12 ?_
  refine J_icmp_le (pc := 15) (tgt := 20) X dX13_feed_15 rfl (fun c2 => ?_) (fun c2 => ?_)
  · have hq := ite_t hq c2
    refine J_aload_n (pc := 20) X (j := 0) (i := 0) rfl rfl dX13_feed_20 ?_
    refine J_iload_n (pc := 21) X (j := 1) (i := 1) rfl rfl dX13_feed_21 ?_
    obtain ⟨h3, hc, hq⟩ := bnv_e hq
    refine J_callV (pc := 22) (as := [.inl x1]) (st := []) (st2 := []) (r1 := (none, h3)) (h2 := h3) (ky := 1) X dX13_feed_22 ca_X13_four ci_X13_four cs_X13_four ml_13_10 (by decide) ly155 rfl rfl (m_X13_four _ _ _ hc) rfl rfl (Nat.le_of_ble_eq_true rfl) rfl rfl ?_
    refine J_aload_n (pc := 25) X (j := 0) (i := 0) rfl rfl dX13_feed_25 ?_
    refine J_iload_n (pc := 26) X (j := 2) (i := 2) rfl rfl dX13_feed_26 ?_
    obtain ⟨h4, hc, hq⟩ := bnv_e hq
    refine J_callV (pc := 27) (as := [.inl x2]) (st := []) (st2 := []) (r1 := (none, h4)) (h2 := h4) (ky := 1) X dX13_feed_27 ca_X13_four ci_X13_four cs_X13_four ml_13_10 (by decide) ly155 rfl rfl (m_X13_four _ _ _ hc) rfl rfl (Nat.le_of_ble_eq_true rfl) rfl rfl ?_
    refine J_aload_n (pc := 30) X (j := 0) (i := 0) rfl rfl dX13_feed_30 ?_
    refine J_iload_n (pc := 31) X (j := 3) (i := 3) rfl rfl dX13_feed_31 ?_
    obtain ⟨h5, hc, hq⟩ := bnv_e hq
    refine J_callV (pc := 32) (as := [.inl x3]) (st := []) (st2 := []) (r1 := (none, h5)) (h2 := h5) (ky := 1) X dX13_feed_32 ca_X13_four ci_X13_four cs_X13_four ml_13_10 (by decide) ly155 rfl rfl (m_X13_four _ _ _ hc) rfl rfl (Nat.le_of_ble_eq_true rfl) rfl rfl ?_
    refine J_aload_n (pc := 35) X (j := 0) (i := 0) rfl rfl dX13_feed_35 ?_
    refine J_iload (pc := 36) X (j := 4) rfl dX13_feed_36 ?_
    obtain ⟨h6, hc, hq⟩ := bnv_e hq
    refine J_callV (pc := 38) (as := [.inl x4]) (st := []) (st2 := []) (r1 := (none, h6)) (h2 := h6) (ky := 1) X dX13_feed_38 ca_X13_four ci_X13_four cs_X13_four ml_13_10 (by decide) ly155 rfl rfl (m_X13_four _ _ _ hc) rfl rfl (Nat.le_of_ble_eq_true rfl) rfl rfl ?_
    refine J_aload_n (pc := 41) X (j := 0) (i := 0) rfl rfl dX13_feed_41 ?_
    refine J_iload (pc := 42) X (j := 5) rfl dX13_feed_42 ?_
    obtain ⟨h7, hc, hq⟩ := bnv_e hq
    refine J_callV (pc := 44) (as := [.inl x5]) (st := []) (st2 := []) (r1 := (none, h7)) (h2 := h7) (ky := 1) X dX13_feed_44 ca_X13_four ci_X13_four cs_X13_four ml_13_10 (by decide) ly155 rfl rfl (m_X13_four _ _ _ hc) rfl rfl (Nat.le_of_ble_eq_true rfl) rfl rfl ?_
    refine J_aload_n (pc := 47) X (j := 0) (i := 0) rfl rfl dX13_feed_47 ?_
    refine J_getI (pc := 48) X ly155 fl_13_7 dX13_feed_48 ?_
    obtain rfl := Option.some.inj hq
    exact J_iret (pc := 51) X dX13_feed_51
  · have hq := ite_f hq c2
    refine J_iconst (pc := 18) X (v := (-1)) (by decide) dX13_feed_18 ?_
    obtain rfl := Option.some.inj hq
    exact J_iret (pc := 19) X dX13_feed_19
theorem m_X13_feed (x1 : Int32) (x2 : Int32) (x3 : Int32) (x4 : Int32) (x5 : Int32) (h : Hp) (q : (Int32 × Hp)) (hq : f_X13_feed x1 x2 x3 x4 x5 h = some q) : ∀ l w, CT l w yX13_feed cX13_feed 6 (some .int) 2 [.inr (.inr 155), .inl x1, .inl x2, .inl x3, .inl x4, .inl x5] h (some (.inl q.1), q.2) :=
  CT_of (L0 := [(0, .inr (.inr 155)), (1, .inl x1), (2, .inl x2), (3, .inl x3), (4, .inl x4), (5, .inl x5)]) (by decide) rfl (Nat.le_of_ble_eq_true rfl) (fun κ X => tf_X13_feed X x1 x2 x3 x4 x5 h q  hq)
theorem tf_X13_end {κ : Kx} (X : OK κ cX13_end 2 (some .boolean) "StruckWordsModel" 1) (x1 : Int32) (h : Hp) (q : (Int32 × Hp)) (hq : f_X13_end x1 h = some q) : J κ 0 [(0, .inr (.inr 155)), (1, .inl x1)] [] h (some (.inl q.1), q.2) := by
  delta f_X13_end at hq
  refine J_aload_n (pc := 0) X (j := 0) (i := 0) rfl rfl dX13_end_0 ?_
  refine J_iconst (pc := 1) X (v := 0) (by decide) dX13_end_1 ?_
  refine J_putI (pc := 2) X ly155 fp_13_1 dX13_end_2 ?_
  refine J_ltH hq (fun h1 hq => ?_)
  refine J_iload_n (pc := 5) X (j := 1) (i := 1) rfl rfl dX13_end_5 ?_
  refine J_if_lt (pc := 6) (tgt := 17) X dX13_end_6 rfl (fun c2 => ?_) (fun c2 => ?_)
  · have hq := ite_t hq c2
    refine J_iconst (pc := 17) X (v := 0) (by decide) dX13_end_17 ?_
    obtain rfl := Option.some.inj hq
    exact J_zret (pc := 18) X (by decide) dX13_end_18
  · have hq := ite_f hq c2
    refine J_iload_n (pc := 9) X (j := 1) (i := 1) rfl rfl dX13_end_9 ?_
    refine J_aload_n (pc := 10) X (j := 0) (i := 0) rfl rfl dX13_end_10 ?_
    refine J_getI (pc := 11) X ly155 fl_13_7 dX13_end_11 ?_
    refine J_icmp_le (pc := 14) (tgt := 19) X dX13_end_14 rfl (fun c3 => ?_) (fun c3 => ?_)
    · have hq := ite_t hq c3
      refine J_aload_n (pc := 19) X (j := 0) (i := 0) rfl rfl dX13_end_19 ?_
      refine J_iload_n (pc := 20) X (j := 1) (i := 1) rfl rfl dX13_end_20 ?_
      refine J_putI (pc := 21) X ly155 fp_13_7 dX13_end_21 ?_
      refine J_ltH hq (fun h4 hq => ?_)
      refine J_iconst (pc := 24) X (v := 1) (by decide) dX13_end_24 ?_
      obtain rfl := Option.some.inj hq
      exact J_zret (pc := 25) X (by decide) dX13_end_25
    · have hq := ite_f hq c3
      refine J_iconst (pc := 17) X (v := 0) (by decide) dX13_end_17 ?_
      obtain rfl := Option.some.inj hq
      exact J_zret (pc := 18) X (by decide) dX13_end_18
theorem m_X13_end (x1 : Int32) (h : Hp) (q : (Int32 × Hp)) (hq : f_X13_end x1 h = some q) : ∀ l w, CT l w yX13_end cX13_end 2 (some .boolean) 1 [.inr (.inr 155), .inl x1] h (some (.inl q.1), q.2) :=
  CT_of (L0 := [(0, .inr (.inr 155)), (1, .inl x1)]) (by decide) rfl (Nat.le_of_ble_eq_true rfl) (fun κ X => tf_X13_end X x1 h q  hq)
theorem tf_X13_taken {κ : Kx} (X : OK κ cX13_taken 2 (none) "StruckWordsModel" 1) (x1 : Int32) (h : Hp) (q : Hp) (hq : f_X13_taken x1 h = some q) : J κ 0 [(0, .inr (.inr 155)), (1, .inl x1)] [] h (none, q) := by
  delta f_X13_taken at hq
  refine J_aload_n (pc := 0) X (j := 0) (i := 0) rfl rfl dX13_taken_0 ?_
  refine J_aload_n (pc := 1) X (j := 0) (i := 0) rfl rfl dX13_taken_1 ?_
  refine J_getI (pc := 2) X ly155 fl_13_7 dX13_taken_2 ?_
  refine J_putI (pc := 5) X ly155 fp_13_18 dX13_taken_5 ?_
  refine J_ltH hq (fun h1 hq => ?_)
  refine J_aload_n (pc := 8) X (j := 0) (i := 0) rfl rfl dX13_taken_8 ?_
  refine J_iconst (pc := 9) X (v := 0) (by decide) dX13_taken_9 ?_
  refine J_putI (pc := 10) X ly155 fp_13_7 dX13_taken_10 ?_
  refine J_ltH hq (fun h2 hq => ?_)
  refine J_aload_n (pc := 13) X (j := 0) (i := 0) rfl rfl dX13_taken_13 ?_
  refine J_iconst (pc := 14) X (v := 0) (by decide) dX13_taken_14 ?_
  refine J_putI (pc := 15) X ly155 fp_13_21 dX13_taken_15 ?_
  refine J_ltH hq (fun h3 hq => ?_)
  refine J_aload_n (pc := 18) X (j := 0) (i := 0) rfl rfl dX13_taken_18 ?_
  refine J_iload_n (pc := 19) X (j := 1) (i := 1) rfl rfl dX13_taken_19 ?_
  refine J_putI (pc := 20) X ly155 fp_13_24 dX13_taken_20 ?_
  refine J_ltH hq (fun h4 hq => ?_)
  obtain rfl := Option.some.inj hq
  exact J_vret (pc := 23) X dX13_taken_23
theorem m_X13_taken (x1 : Int32) (h : Hp) (q : Hp) (hq : f_X13_taken x1 h = some q) : ∀ l w, CT l w yX13_taken cX13_taken 2 (none) 1 [.inr (.inr 155), .inl x1] h (none, q) :=
  CT_of (L0 := [(0, .inr (.inr 155)), (1, .inl x1)]) (by decide) rfl (Nat.le_of_ble_eq_true rfl) (fun κ X => tf_X13_taken X x1 h q  hq)
theorem tf_X13_isIn {κ : Kx} (X : OK κ cX13_isIn 3 (some .boolean) "StruckWordsModel" 1) (x0 : Int32) (x1 : Int32) (x2 : Int32) (h : Hp) (q : (Int32 × Hp)) (hq : f_X13_isIn x0 x1 x2 h = some q) : J κ 0 [(0, .inl x0), (1, .inl x1), (2, .inl x2)] [] h (some (.inl q.1), q.2) := by
  delta f_X13_isIn at hq
  refine J_iload_n (pc := 0) X (j := 0) (i := 0) rfl rfl dX13_isIn_0 ?_
  refine J_iload_n (pc := 1) X (j := 1) (i := 1) rfl rfl dX13_isIn_1 ?_
  refine J_icmp_lt (pc := 2) (tgt := 14) X dX13_isIn_2 rfl (fun c1 => ?_) (fun c1 => ?_)
  · have hq := ite_t hq c1
    refine J_iconst (pc := 14) X (v := 0) (by decide) dX13_isIn_14 ?_
    obtain rfl := Option.some.inj hq
    exact J_zret (pc := 15) X (by decide) dX13_isIn_15
  · have hq := ite_f hq c1
    refine J_iload_n (pc := 5) X (j := 0) (i := 0) rfl rfl dX13_isIn_5 ?_
    refine J_iload_n (pc := 6) X (j := 2) (i := 2) rfl rfl dX13_isIn_6 ?_
    refine J_icmp_gt (pc := 7) (tgt := 14) X dX13_isIn_7 rfl (fun c2 => ?_) (fun c2 => ?_)
    · have hq := ite_t hq c2
      refine J_iconst (pc := 14) X (v := 0) (by decide) dX13_isIn_14 ?_
      obtain rfl := Option.some.inj hq
      exact J_zret (pc := 15) X (by decide) dX13_isIn_15
    · have hq := ite_f hq c2
      refine J_iconst (pc := 10) X (v := 1) (by decide) dX13_isIn_10 ?_
      refine J_goto (pc := 11) X (tgt := 15) dX13_isIn_11 rfl ?_
      obtain rfl := Option.some.inj hq
      exact J_zret (pc := 15) X (by decide) dX13_isIn_15
theorem m_X13_isIn (x0 : Int32) (x1 : Int32) (x2 : Int32) (h : Hp) (q : (Int32 × Hp)) (hq : f_X13_isIn x0 x1 x2 h = some q) : ∀ l w, CT l w yX13_isIn cX13_isIn 3 (some .boolean) 1 [.inl x0, .inl x1, .inl x2] h (some (.inl q.1), q.2) :=
  CT_of (L0 := [(0, .inl x0), (1, .inl x1), (2, .inl x2)]) (by decide) rfl (Nat.le_of_ble_eq_true rfl) (fun κ X => tf_X13_isIn X x0 x1 x2 h q  hq)
theorem tf_X13_has {κ : Kx} (X : OK κ cX13_has 2 (some .boolean) "StruckWordsModel" 1) (x0 : Int32) (x1 : Int32) (h : Hp) (q : (Int32 × Hp)) (hq : f_X13_has x0 x1 h = some q) : J κ 0 [(0, .inl x0), (1, .inl x1)] [] h (some (.inl q.1), q.2) := by
  delta f_X13_has at hq
  refine J_iload_n (pc := 0) X (j := 0) (i := 0) rfl rfl dX13_has_0 ?_
  refine J_iload_n (pc := 1) X (j := 1) (i := 1) rfl rfl dX13_has_1 ?_
  refine J_ishr (pc := 2) X dX13_has_2 ?_
  refine J_iconst (pc := 3) X (v := 1) (by decide) dX13_has_3 ?_
  refine J_iand (pc := 4) X dX13_has_4 ?_
  refine J_iconst (pc := 5) X (v := 1) (by decide) dX13_has_5 ?_
  refine J_icmp_ne (pc := 6) (tgt := 13) X dX13_has_6 rfl (fun c1 => ?_) (fun c1 => ?_)
  · have hq := ite_f hq c1
    refine J_iconst (pc := 13) X (v := 0) (by decide) dX13_has_13 ?_
    obtain rfl := Option.some.inj hq
    exact J_zret (pc := 14) X (by decide) dX13_has_14
  · have hq := ite_t hq c1
    refine J_iconst (pc := 9) X (v := 1) (by decide) dX13_has_9 ?_
    refine J_goto (pc := 10) X (tgt := 14) dX13_has_10 rfl ?_
    obtain rfl := Option.some.inj hq
    exact J_zret (pc := 14) X (by decide) dX13_has_14
theorem m_X13_has (x0 : Int32) (x1 : Int32) (h : Hp) (q : (Int32 × Hp)) (hq : f_X13_has x0 x1 h = some q) : ∀ l w, CT l w yX13_has cX13_has 2 (some .boolean) 1 [.inl x0, .inl x1] h (some (.inl q.1), q.2) :=
  CT_of (L0 := [(0, .inl x0), (1, .inl x1)]) (by decide) rfl (Nat.le_of_ble_eq_true rfl) (fun κ X => tf_X13_has X x0 x1 h q  hq)
theorem tf_X13_octet {κ : Kx} (X : OK κ cX13_octet 2 (some .int) "StruckWordsModel" 1) (x1 : Int32) (h : Hp) (q : (Int32 × Hp)) (hq : f_X13_octet x1 h = some q) : J κ 0 [(0, .inr (.inr 155)), (1, .inl x1)] [] h (some (.inl q.1), q.2) := by
  delta f_X13_octet at hq
  refine J_aload_n (pc := 0) X (j := 0) (i := 0) rfl rfl dX13_octet_0 ?_
  refine J_getF (pc := 1) X (b := 156) ly155 fl_13_14 rfl dX13_octet_1 ?_
  refine J_iload_n (pc := 4) X (j := 1) (i := 1) rfl rfl dX13_octet_4 ?_
  obtain ⟨g1, hq⟩ := gd hq
  refine J_baload (pc := 5) X ly156 g1 dX13_octet_5 ?_
  refine J_sipush (pc := 6) X (v := 255) (by decide) dX13_octet_6 ?_
  refine J_iand (pc := 9) X dX13_octet_9 ?_
  obtain rfl := Option.some.inj hq
  exact J_iret (pc := 10) X dX13_octet_10
theorem m_X13_octet (x1 : Int32) (h : Hp) (q : (Int32 × Hp)) (hq : f_X13_octet x1 h = some q) : ∀ l w, CT l w yX13_octet cX13_octet 2 (some .int) 1 [.inr (.inr 155), .inl x1] h (some (.inl q.1), q.2) :=
  CT_of (L0 := [(0, .inr (.inr 155)), (1, .inl x1)]) (by decide) rfl (Nat.le_of_ble_eq_true rfl) (fun κ X => tf_X13_octet X x1 h q  hq)
theorem tF_X13_plainTongue_2 {κ : Kx} (X : OK κ cX13_plainTongue 2 (none) "StruckWordsModel" 1) (k22 : Hp → Option Hp) (self : Int32 → Hp → Option Hp) (x1 : Int32) (h : Hp) (q : Hp) (hk22 : ∀ (h : Hp) (q : Hp), k22 h = some q → J κ 22 [(0, .inr (.inr 155))] [] h (none, q)) (hself : ∀ (x1 : Int32) (h : Hp) (q : Hp), self x1 h = some q → J κ 2 [(0, .inr (.inr 155)), (1, .inl x1)] [] h (none, q)) (hq : F_X13_plainTongue_2 k22 self x1 h = some q) : J κ 2 [(0, .inr (.inr 155)), (1, .inl x1)] [] h (none, q) := by
  delta F_X13_plainTongue_2 at hq
  refine J_iload_n (pc := 2) X (j := 1) (i := 1) rfl rfl dX13_plainTongue_2 ?_
  refine J_sipush (pc := 3) X (v := 437) (by decide) dX13_plainTongue_3 ?_
  refine J_icmp_ge (pc := 6) (tgt := 22) X dX13_plainTongue_6 rfl (fun c1 => ?_) (fun c1 => ?_)
  · have hq := ite_t hq c1
    refine J_sub [0] rfl ?_
    exact hk22 _ _ hq
  · have hq := ite_f hq c1
    refine J_aload_n (pc := 9) X (j := 0) (i := 0) rfl rfl dX13_plainTongue_9 ?_
    refine J_getF (pc := 10) X (b := 158) ly155 fl_13_37 rfl dX13_plainTongue_10 ?_
    refine J_iload_n (pc := 13) X (j := 1) (i := 1) rfl rfl dX13_plainTongue_13 ?_
    refine J_iconst (pc := 14) X (v := 0) (by decide) dX13_plainTongue_14 ?_
    obtain ⟨g2, hq⟩ := gd hq
    refine J_iastore (pc := 15) X ly158 g2 dX13_plainTongue_15 ?_
    refine J_ltH hq (fun h3 hq => ?_)
    refine J_iinc (pc := 16) X (j := 1) (v := 1) (L' := [(1, .inl (x1 + 1)), (0, .inr (.inr 155))]) rfl (by decide) (by decide) rfl dX13_plainTongue_16 ?_
    refine J_goto (pc := 19) X (tgt := 2) dX13_plainTongue_19 rfl ?_
    refine J_sub [1, 0] rfl ?_
    exact hself _ _ _ hq
theorem tL_X13_plainTongue_2 {κ : Kx} (X : OK κ cX13_plainTongue 2 (none) "StruckWordsModel" 1) (k22 : Hp → Option Hp) (N : Nat) (x1 : Int32) (h : Hp) (q : Hp) (hk22 : ∀ (h : Hp) (q : Hp), k22 h = some q → J κ 22 [(0, .inr (.inr 155))] [] h (none, q)) (hq : itr2 (F_X13_plainTongue_2 k22) N x1 h = some q) : J κ 2 [(0, .inr (.inr 155)), (1, .inl x1)] [] h (none, q) :=
  itr2_ind (fun self hs x1 h q hq => tF_X13_plainTongue_2 X k22 self x1 h q hk22 hs hq) N x1 h q hq
theorem tF_X13_plainTongue_38 {κ : Kx} (X : OK κ cX13_plainTongue 2 (none) "StruckWordsModel" 1) (k60 : Hp → Option Hp) (self : Int32 → Hp → Option Hp) (x1 : Int32) (h : Hp) (q : Hp) (hk60 : ∀ (h : Hp) (q : Hp), k60 h = some q → J κ 60 [] [] h (none, q)) (hself : ∀ (x1 : Int32) (h : Hp) (q : Hp), self x1 h = some q → J κ 38 [(0, .inr (.inr 155)), (1, .inl x1)] [] h (none, q)) (hq : F_X13_plainTongue_38 k60 self x1 h = some q) : J κ 38 [(0, .inr (.inr 155)), (1, .inl x1)] [] h (none, q) := by
  delta F_X13_plainTongue_38 at hq
  refine J_iload_n (pc := 38) X (j := 1) (i := 1) rfl rfl dX13_plainTongue_38 ?_
  refine J_iconst (pc := 39) X (v := 5) (by decide) dX13_plainTongue_39 ?_
  refine J_icmp_ge (pc := 40) (tgt := 60) X dX13_plainTongue_40 rfl (fun c7 => ?_) (fun c7 => ?_)
  · have hq := ite_t hq c7
    refine J_sub [] rfl ?_
    exact hk60 _ _ hq
  · have hq := ite_f hq c7
    refine J_aload_n (pc := 43) X (j := 0) (i := 0) rfl rfl dX13_plainTongue_43 ?_
    refine J_getF (pc := 44) X (b := 158) ly155 fl_13_37 rfl dX13_plainTongue_44 ?_
    refine J_sipush (pc := 47) X (v := 432) (by decide) dX13_plainTongue_47 ?_
    refine J_iload_n (pc := 50) X (j := 1) (i := 1) rfl rfl dX13_plainTongue_50 ?_
    refine J_iadd (pc := 51) X dX13_plainTongue_51 ?_
    refine J_iconst (pc := 52) X (v := 1) (by decide) dX13_plainTongue_52 ?_
    obtain ⟨g8, hq⟩ := gd hq
    refine J_iastore (pc := 53) X ly158 g8 dX13_plainTongue_53 ?_
    refine J_ltH hq (fun h9 hq => ?_)
    refine J_iinc (pc := 54) X (j := 1) (v := 1) (L' := [(1, .inl (x1 + 1)), (0, .inr (.inr 155))]) rfl (by decide) (by decide) rfl dX13_plainTongue_54 ?_
    refine J_goto (pc := 57) X (tgt := 38) dX13_plainTongue_57 rfl ?_
    refine J_sub [1, 0] rfl ?_
    exact hself _ _ _ hq
theorem tL_X13_plainTongue_38 {κ : Kx} (X : OK κ cX13_plainTongue 2 (none) "StruckWordsModel" 1) (k60 : Hp → Option Hp) (N : Nat) (x1 : Int32) (h : Hp) (q : Hp) (hk60 : ∀ (h : Hp) (q : Hp), k60 h = some q → J κ 60 [] [] h (none, q)) (hq : itr2 (F_X13_plainTongue_38 k60) N x1 h = some q) : J κ 38 [(0, .inr (.inr 155)), (1, .inl x1)] [] h (none, q) :=
  itr2_ind (fun self hs x1 h q hq => tF_X13_plainTongue_38 X k60 self x1 h q hk60 hs hq) N x1 h q hq
theorem tf_X13_plainTongue {κ : Kx} (X : OK κ cX13_plainTongue 2 (none) "StruckWordsModel" 1) (h : Hp) (q : Hp) (hq : f_X13_plainTongue h = some q) : J κ 0 [(0, .inr (.inr 155))] [] h (none, q) := by
  delta f_X13_plainTongue at hq
  refine J_iconst (pc := 0) X (v := 0) (by decide) dX13_plainTongue_0 ?_
  refine J_istore_n (pc := 1) X (L' := [(1, .inl 0), (0, .inr (.inr 155))]) (i := 1) rfl (by decide) rfl dX13_plainTongue_1 ?_
  refine J_sub [1, 0] rfl ?_
  refine tL_X13_plainTongue_2 X _ N0 _ _ _ ?_ hq
  · intro h4 q hq
    refine J_aload_n (pc := 22) X (j := 0) (i := 0) rfl rfl dX13_plainTongue_22 ?_
    refine J_getF (pc := 23) X (b := 158) ly155 fl_13_37 rfl dX13_plainTongue_23 ?_
    refine J_iconst (pc := 26) X (v := 3) (by decide) dX13_plainTongue_26 ?_
    refine J_iconst (pc := 27) X (v := 3) (by decide) dX13_plainTongue_27 ?_
    refine J_iastore (pc := 28) X ly158 (by decide) dX13_plainTongue_28 ?_
    refine J_ltH hq (fun h5 hq => ?_)
    refine J_aload_n (pc := 29) X (j := 0) (i := 0) rfl rfl dX13_plainTongue_29 ?_
    refine J_getF (pc := 30) X (b := 158) ly155 fl_13_37 rfl dX13_plainTongue_30 ?_
    refine J_iconst (pc := 33) X (v := 4) (by decide) dX13_plainTongue_33 ?_
    refine J_iconst (pc := 34) X (v := 1) (by decide) dX13_plainTongue_34 ?_
    refine J_iastore (pc := 35) X ly158 (by decide) dX13_plainTongue_35 ?_
    refine J_ltH hq (fun h6 hq => ?_)
    refine J_iconst (pc := 36) X (v := 0) (by decide) dX13_plainTongue_36 ?_
    refine J_istore_n (pc := 37) X (L' := [(1, .inl 0), (0, .inr (.inr 155))]) (i := 1) rfl (by decide) rfl dX13_plainTongue_37 ?_
    refine J_sub [1, 0] rfl ?_
    refine tL_X13_plainTongue_38 X _ N0 _ _ _ ?_ hq
    · intro h10 q hq
      obtain rfl := Option.some.inj hq
      exact J_vret (pc := 60) X dX13_plainTongue_60
theorem m_X13_plainTongue (h : Hp) (q : Hp) (hq : f_X13_plainTongue  h = some q) : ∀ l w, CT l w yX13_plainTongue cX13_plainTongue 2 (none) 1 [.inr (.inr 155)] h (none, q) :=
  CT_of (L0 := [(0, .inr (.inr 155))]) (by decide) rfl (Nat.le_of_ble_eq_true rfl) (fun κ X => tf_X13_plainTongue X  h q  hq)
theorem tf_X13_peek {κ : Kx} (X : OK κ cX13_peek 1 (some .int) "StruckWordsModel" 1) (h : Hp) (q : (Int32 × Hp)) (hq : f_X13_peek h = some q) : J κ 0 [(0, .inr (.inr 155))] [] h (some (.inl q.1), q.2) := by
  delta f_X13_peek at hq
  refine J_aload_n (pc := 0) X (j := 0) (i := 0) rfl rfl dX13_peek_0 ?_
  refine J_getI (pc := 1) X ly155 fl_13_21 dX13_peek_1 ?_
  refine J_aload_n (pc := 4) X (j := 0) (i := 0) rfl rfl dX13_peek_4 ?_
  refine J_getI (pc := 5) X ly155 fl_13_18 dX13_peek_5 ?_
  refine J_icmp_ge (pc := 8) (tgt := 27) X dX13_peek_8 rfl (fun c1 => ?_) (fun c1 => ?_)
  · have hq := ite_t hq c1
    refine J_iconst (pc := 27) X (v := (-1)) (by decide) dX13_peek_27 ?_
    obtain rfl := Option.some.inj hq
    exact J_iret (pc := 28) X dX13_peek_28
  · have hq := ite_f hq c1
    refine J_aload_n (pc := 11) X (j := 0) (i := 0) rfl rfl dX13_peek_11 ?_
    refine J_getF (pc := 12) X (b := 156) ly155 fl_13_14 rfl dX13_peek_12 ?_
    refine J_aload_n (pc := 15) X (j := 0) (i := 0) rfl rfl dX13_peek_15 ?_
    refine J_getI (pc := 16) X ly155 fl_13_21 dX13_peek_16 ?_
    obtain ⟨g2, hq⟩ := gd hq
    refine J_baload (pc := 19) X ly156 g2 dX13_peek_19 ?_
    refine J_sipush (pc := 20) X (v := 255) (by decide) dX13_peek_20 ?_
    refine J_iand (pc := 23) X dX13_peek_23 ?_
    refine J_goto (pc := 24) X (tgt := 28) dX13_peek_24 rfl ?_
    obtain rfl := Option.some.inj hq
    exact J_iret (pc := 28) X dX13_peek_28
theorem m_X13_peek (h : Hp) (q : (Int32 × Hp)) (hq : f_X13_peek  h = some q) : ∀ l w, CT l w yX13_peek cX13_peek 1 (some .int) 1 [.inr (.inr 155)] h (some (.inl q.1), q.2) :=
  CT_of (L0 := [(0, .inr (.inr 155))]) (by decide) rfl (Nat.le_of_ble_eq_true rfl) (fun κ X => tf_X13_peek X  h q  hq)
theorem tf_X13_isSmall {κ : Kx} (X : OK κ cX13_isSmall 1 (some .boolean) "StruckWordsModel" 1) (x0 : Int32) (h : Hp) (q : (Int32 × Hp)) (hq : f_X13_isSmall x0 h = some q) : J κ 0 [(0, .inl x0)] [] h (some (.inl q.1), q.2) := by
  delta f_X13_isSmall at hq
  refine J_iload_n (pc := 0) X (j := 0) (i := 0) rfl rfl dX13_isSmall_0 ?_
  refine J_bipush (pc := 1) X (v := 97) (by decide) dX13_isSmall_1 ?_
  refine J_icmp_lt (pc := 3) (tgt := 16) X dX13_isSmall_3 rfl (fun c1 => ?_) (fun c1 => ?_)
  · have hq := ite_t hq c1
    refine J_iconst (pc := 16) X (v := 0) (by decide) dX13_isSmall_16 ?_
    obtain rfl := Option.some.inj hq
    exact J_zret (pc := 17) X (by decide) dX13_isSmall_17
  · have hq := ite_f hq c1
    refine J_iload_n (pc := 6) X (j := 0) (i := 0) rfl rfl dX13_isSmall_6 ?_
    refine J_bipush (pc := 7) X (v := 122) (by decide) dX13_isSmall_7 ?_
    refine J_icmp_gt (pc := 9) (tgt := 16) X dX13_isSmall_9 rfl (fun c2 => ?_) (fun c2 => ?_)
    · have hq := ite_t hq c2
      refine J_iconst (pc := 16) X (v := 0) (by decide) dX13_isSmall_16 ?_
      obtain rfl := Option.some.inj hq
      exact J_zret (pc := 17) X (by decide) dX13_isSmall_17
    · have hq := ite_f hq c2
      refine J_iconst (pc := 12) X (v := 1) (by decide) dX13_isSmall_12 ?_
      refine J_goto (pc := 13) X (tgt := 17) dX13_isSmall_13 rfl ?_
      obtain rfl := Option.some.inj hq
      exact J_zret (pc := 17) X (by decide) dX13_isSmall_17
theorem m_X13_isSmall (x0 : Int32) (h : Hp) (q : (Int32 × Hp)) (hq : f_X13_isSmall x0 h = some q) : ∀ l w, CT l w yX13_isSmall cX13_isSmall 1 (some .boolean) 1 [.inl x0] h (some (.inl q.1), q.2) :=
  CT_of (L0 := [(0, .inl x0)]) (by decide) rfl (Nat.le_of_ble_eq_true rfl) (fun κ X => tf_X13_isSmall X x0 h q  hq)
theorem tf_X13_isDigit {κ : Kx} (X : OK κ cX13_isDigit 1 (some .boolean) "StruckWordsModel" 1) (x0 : Int32) (h : Hp) (q : (Int32 × Hp)) (hq : f_X13_isDigit x0 h = some q) : J κ 0 [(0, .inl x0)] [] h (some (.inl q.1), q.2) := by
  delta f_X13_isDigit at hq
  refine J_iload_n (pc := 0) X (j := 0) (i := 0) rfl rfl dX13_isDigit_0 ?_
  refine J_bipush (pc := 1) X (v := 48) (by decide) dX13_isDigit_1 ?_
  refine J_icmp_lt (pc := 3) (tgt := 16) X dX13_isDigit_3 rfl (fun c1 => ?_) (fun c1 => ?_)
  · have hq := ite_t hq c1
    refine J_iconst (pc := 16) X (v := 0) (by decide) dX13_isDigit_16 ?_
    obtain rfl := Option.some.inj hq
    exact J_zret (pc := 17) X (by decide) dX13_isDigit_17
  · have hq := ite_f hq c1
    refine J_iload_n (pc := 6) X (j := 0) (i := 0) rfl rfl dX13_isDigit_6 ?_
    refine J_bipush (pc := 7) X (v := 57) (by decide) dX13_isDigit_7 ?_
    refine J_icmp_gt (pc := 9) (tgt := 16) X dX13_isDigit_9 rfl (fun c2 => ?_) (fun c2 => ?_)
    · have hq := ite_t hq c2
      refine J_iconst (pc := 16) X (v := 0) (by decide) dX13_isDigit_16 ?_
      obtain rfl := Option.some.inj hq
      exact J_zret (pc := 17) X (by decide) dX13_isDigit_17
    · have hq := ite_f hq c2
      refine J_iconst (pc := 12) X (v := 1) (by decide) dX13_isDigit_12 ?_
      refine J_goto (pc := 13) X (tgt := 17) dX13_isDigit_13 rfl ?_
      obtain rfl := Option.some.inj hq
      exact J_zret (pc := 17) X (by decide) dX13_isDigit_17
theorem m_X13_isDigit (x0 : Int32) (h : Hp) (q : (Int32 × Hp)) (hq : f_X13_isDigit x0 h = some q) : ∀ l w, CT l w yX13_isDigit cX13_isDigit 1 (some .boolean) 1 [.inl x0] h (some (.inl q.1), q.2) :=
  CT_of (L0 := [(0, .inl x0)]) (by decide) rfl (Nat.le_of_ble_eq_true rfl) (fun κ X => tf_X13_isDigit X x0 h q  hq)
theorem tB_X13_next_18 {κ : Kx} (X : OK κ cX13_next 4 (none) "StruckWordsModel" 2) (k31 : Hp → Option Hp) (self : Hp → Option Hp) (h : Hp) (q : Hp) (hk31 : ∀ (h : Hp) (q : Hp), k31 h = some q → J κ 31 [(0, .inr (.inr 155))] [] h (none, q)) (hself : ∀ (h : Hp) (q : Hp), self h = some q → J κ 0 [(0, .inr (.inr 155))] [] h (none, q)) (hq : B_X13_next_18 k31 self h = some q) : J κ 18 [(0, .inr (.inr 155))] [] h (none, q) := by
  delta B_X13_next_18 at hq
  refine J_aload_n (pc := 18) X (j := 0) (i := 0) rfl rfl dX13_next_18 ?_
  refine J_dup (pc := 19) X rfl dX13_next_19 ?_
  refine J_getI (pc := 20) X ly155 fl_13_21 dX13_next_20 ?_
  refine J_iconst (pc := 23) X (v := 1) (by decide) dX13_next_23 ?_
  refine J_iadd (pc := 24) X dX13_next_24 ?_
  refine J_putI (pc := 25) X ly155 fp_13_21 dX13_next_25 ?_
  refine J_ltH hq (fun h4 hq => ?_)
  refine J_goto (pc := 28) X (tgt := 0) dX13_next_28 rfl ?_
  exact hself _ _ hq
theorem tF_X13_next_0 {κ : Kx} (X : OK κ cX13_next 4 (none) "StruckWordsModel" 2) (k31 : Hp → Option Hp) (self : Hp → Option Hp) (h : Hp) (q : Hp) (hk31 : ∀ (h : Hp) (q : Hp), k31 h = some q → J κ 31 [(0, .inr (.inr 155))] [] h (none, q)) (hself : ∀ (h : Hp) (q : Hp), self h = some q → J κ 0 [(0, .inr (.inr 155))] [] h (none, q)) (hq : F_X13_next_0 k31 self h = some q) : J κ 0 [(0, .inr (.inr 155))] [] h (none, q) := by
  delta F_X13_next_0 at hq
  refine J_aload_n (pc := 0) X (j := 0) (i := 0) rfl rfl dX13_next_0 ?_
  obtain ⟨v2, h1, hc, hq⟩ := bnd_e hq
  refine J_callV (pc := 1) (as := []) (st := []) (st2 := [.inl v2]) (r1 := (some (.inl v2), h1)) (h2 := h1) (ky := 1) X dX13_next_1 ca_X13_peek ci_X13_peek cs_X13_peek ml_13_162 (by decide) ly155 rfl rfl (m_X13_peek _ _ hc) rfl rfl (Nat.le_of_ble_eq_true rfl) rfl rfl ?_
  refine J_bipush (pc := 4) X (v := 32) (by decide) dX13_next_4 ?_
  refine J_icmp_eq (pc := 6) (tgt := 18) X dX13_next_6 rfl (fun c3 => ?_) (fun c3 => ?_)
  · have hq := ite_t hq c3
    exact tB_X13_next_18 X _ _ _ _ hk31 hself hq
  · have hq := ite_f hq c3
    refine J_aload_n (pc := 9) X (j := 0) (i := 0) rfl rfl dX13_next_9 ?_
    obtain ⟨v6, h5, hc, hq⟩ := bnd_e hq
    refine J_callV (pc := 10) (as := []) (st := []) (st2 := [.inl v6]) (r1 := (some (.inl v6), h5)) (h2 := h5) (ky := 1) X dX13_next_10 ca_X13_peek ci_X13_peek cs_X13_peek ml_13_162 (by decide) ly155 rfl rfl (m_X13_peek _ _ hc) rfl rfl (Nat.le_of_ble_eq_true rfl) rfl rfl ?_
    refine J_bipush (pc := 13) X (v := 10) (by decide) dX13_next_13 ?_
    refine J_icmp_ne (pc := 15) (tgt := 31) X dX13_next_15 rfl (fun c7 => ?_) (fun c7 => ?_)
    · have hq := ite_f hq c7
      exact hk31 _ _ hq
    · have hq := ite_t hq c7
      exact tB_X13_next_18 X _ _ _ _ hk31 hself hq
theorem tL_X13_next_0 {κ : Kx} (X : OK κ cX13_next 4 (none) "StruckWordsModel" 2) (k31 : Hp → Option Hp) (N : Nat) (h : Hp) (q : Hp) (hk31 : ∀ (h : Hp) (q : Hp), k31 h = some q → J κ 31 [(0, .inr (.inr 155))] [] h (none, q)) (hq : itr1 (F_X13_next_0 k31) N h = some q) : J κ 0 [(0, .inr (.inr 155))] [] h (none, q) :=
  itr1_ind (fun self hs  h q hq => tF_X13_next_0 X k31 self h q hk31 hs hq) N  h q hq
theorem tB_X13_next_251 {κ : Kx} (X : OK κ cX13_next 4 (none) "StruckWordsModel" 2) (x2 : Int32) (k274 : Int32 → Hp → Option Hp) (self : Int32 → Hp → Option Hp) (x3 : Int32) (h : Hp) (q : Hp) (hk274 : ∀ (x3 : Int32) (h : Hp) (q : Hp), k274 x3 h = some q → J κ 274 [(0, .inr (.inr 155)), (2, .inl x2), (3, .inl x3)] [] h (none, q)) (hself : ∀ (x3 : Int32) (h : Hp) (q : Hp), self x3 h = some q → J κ 157 [(0, .inr (.inr 155)), (2, .inl x2), (3, .inl x3)] [] h (none, q)) (hq : B_X13_next_251 x2 k274 self x3 h = some q) : J κ 251 [(0, .inr (.inr 155)), (2, .inl x2), (3, .inl x3)] [] h (none, q) := by
  delta B_X13_next_251 at hq
  refine J_aload_n (pc := 251) X (j := 0) (i := 0) rfl rfl dX13_next_251 ?_
  refine J_dup (pc := 252) X rfl dX13_next_252 ?_
  refine J_getI (pc := 253) X ly155 fl_13_169 dX13_next_253 ?_
  refine J_iconst (pc := 256) X (v := 1) (by decide) dX13_next_256 ?_
  refine J_iadd (pc := 257) X dX13_next_257 ?_
  refine J_putI (pc := 258) X ly155 fp_13_169 dX13_next_258 ?_
  refine J_ltH hq (fun h30 hq => ?_)
  refine J_aload_n (pc := 261) X (j := 0) (i := 0) rfl rfl dX13_next_261 ?_
  refine J_dup (pc := 262) X rfl dX13_next_262 ?_
  refine J_getI (pc := 263) X ly155 fl_13_21 dX13_next_263 ?_
  refine J_iconst (pc := 266) X (v := 1) (by decide) dX13_next_266 ?_
  refine J_iadd (pc := 267) X dX13_next_267 ?_
  refine J_putI (pc := 268) X ly155 fp_13_21 dX13_next_268 ?_
  refine J_ltH hq (fun h31 hq => ?_)
  refine J_goto (pc := 271) X (tgt := 157) dX13_next_271 rfl ?_
  exact hself _ _ _ hq
theorem tB_X13_next_224 {κ : Kx} (X : OK κ cX13_next 4 (none) "StruckWordsModel" 2) (x2 : Int32) (k274 : Int32 → Hp → Option Hp) (self : Int32 → Hp → Option Hp) (x3 : Int32) (h : Hp) (q : Hp) (hk274 : ∀ (x3 : Int32) (h : Hp) (q : Hp), k274 x3 h = some q → J κ 274 [(0, .inr (.inr 155)), (2, .inl x2), (3, .inl x3)] [] h (none, q)) (hself : ∀ (x3 : Int32) (h : Hp) (q : Hp), self x3 h = some q → J κ 157 [(0, .inr (.inr 155)), (2, .inl x2), (3, .inl x3)] [] h (none, q)) (hq : B_X13_next_224 x2 k274 self x3 h = some q) : J κ 224 [(0, .inr (.inr 155)), (2, .inl x2), (3, .inl x3)] [] h (none, q) := by
  delta B_X13_next_224 at hq
  refine J_aload_n (pc := 224) X (j := 0) (i := 0) rfl rfl dX13_next_224 ?_
  refine J_getI (pc := 225) X ly155 fl_13_169 dX13_next_225 ?_
  refine J_iconst (pc := 228) X (v := 2) (by decide) dX13_next_228 ?_
  refine J_icmp_ge (pc := 229) (tgt := 251) X dX13_next_229 rfl (fun c29 => ?_) (fun c29 => ?_)
  · have hq := ite_t hq c29
    exact tB_X13_next_251 X _ _ _ _ _ _ hk274 hself hq
  · have hq := ite_f hq c29
    refine J_aload_n (pc := 232) X (j := 0) (i := 0) rfl rfl dX13_next_232 ?_
    refine J_bipush (pc := 233) X (v := 10) (by decide) dX13_next_233 ?_
    refine J_aload_n (pc := 235) X (j := 0) (i := 0) rfl rfl dX13_next_235 ?_
    refine J_getI (pc := 236) X ly155 fl_13_182 dX13_next_236 ?_
    refine J_imul (pc := 239) X dX13_next_239 ?_
    refine J_aload_n (pc := 240) X (j := 0) (i := 0) rfl rfl dX13_next_240 ?_
    obtain ⟨v33, h32, hc, hq⟩ := bnd_e hq
    refine J_callV (pc := 241) (as := []) (st := [.inl (10 * (h.1 155 13)), .inr (.inr 155)]) (st2 := [.inl v33, .inl (10 * (h.1 155 13)), .inr (.inr 155)]) (r1 := (some (.inl v33), h32)) (h2 := h32) (ky := 1) X dX13_next_241 ca_X13_peek ci_X13_peek cs_X13_peek ml_13_162 (by decide) ly155 rfl rfl (m_X13_peek _ _ hc) rfl rfl (Nat.le_of_ble_eq_true rfl) rfl rfl ?_
    refine J_iadd (pc := 244) X dX13_next_244 ?_
    refine J_bipush (pc := 245) X (v := 48) (by decide) dX13_next_245 ?_
    refine J_isub (pc := 247) X dX13_next_247 ?_
    refine J_putI (pc := 248) X ly155 fp_13_182 dX13_next_248 ?_
    refine J_ltH hq (fun h34 hq => ?_)
    exact tB_X13_next_251 X _ _ _ _ _ _ hk274 hself hq
theorem tB_X13_next_197 {κ : Kx} (X : OK κ cX13_next 4 (none) "StruckWordsModel" 2) (x2 : Int32) (k274 : Int32 → Hp → Option Hp) (self : Int32 → Hp → Option Hp) (t0 : Int32) (h : Hp) (q : Hp) (hk274 : ∀ (x3 : Int32) (h : Hp) (q : Hp), k274 x3 h = some q → J κ 274 [(0, .inr (.inr 155)), (2, .inl x2), (3, .inl x3)] [] h (none, q)) (hself : ∀ (x3 : Int32) (h : Hp) (q : Hp), self x3 h = some q → J κ 157 [(0, .inr (.inr 155)), (2, .inl x2), (3, .inl x3)] [] h (none, q)) (hq : B_X13_next_197 x2 k274 self t0 h = some q) : J κ 197 [(0, .inr (.inr 155)), (2, .inl x2)] [.inl t0] h (none, q) := by
  delta B_X13_next_197 at hq
  refine J_istore_n (pc := 197) X (L' := [(3, .inl t0), (0, .inr (.inr 155)), (2, .inl x2)]) (i := 3) rfl (by decide) rfl dX13_next_197 ?_
  refine J_aload_n (pc := 198) X (j := 1) (i := 0) rfl rfl dX13_next_198 ?_
  refine J_getI (pc := 199) X ly155 fl_13_169 dX13_next_199 ?_
  refine J_bipush (pc := 202) X (v := 6) (by decide) dX13_next_202 ?_
  refine J_icmp_ge (pc := 204) (tgt := 224) X dX13_next_204 rfl (fun c28 => ?_) (fun c28 => ?_)
  · have hq := ite_t hq c28
    refine J_sub [1, 2, 0] rfl ?_
    exact tB_X13_next_224 X _ _ _ _ _ _ hk274 hself hq
  · have hq := ite_f hq c28
    refine J_aload_n (pc := 207) X (j := 1) (i := 0) rfl rfl dX13_next_207 ?_
    refine J_aload_n (pc := 208) X (j := 1) (i := 0) rfl rfl dX13_next_208 ?_
    refine J_getL (pc := 209) X ly155 fl_13_185 dX13_next_209 ?_
    refine J_bipush (pc := 212) X (v := 8) (by decide) dX13_next_212 ?_
    refine J_lshl (pc := 214) X dX13_next_214 ?_
    refine J_aload_n (pc := 215) X (j := 1) (i := 0) rfl rfl dX13_next_215 ?_
    obtain ⟨v36, h35, hc, hq⟩ := bnd_e hq
    refine J_callV (pc := 216) (as := []) (st := [.inr (.inl (jlshl (h.2.1 155 16) 8)), .inr (.inr 155)]) (st2 := [.inl v36, .inr (.inl (jlshl (h.2.1 155 16) 8)), .inr (.inr 155)]) (r1 := (some (.inl v36), h35)) (h2 := h35) (ky := 1) X dX13_next_216 ca_X13_peek ci_X13_peek cs_X13_peek ml_13_162 (by decide) ly155 rfl rfl (m_X13_peek _ _ hc) rfl rfl (Nat.le_of_ble_eq_true rfl) rfl rfl ?_
    refine J_i2l (pc := 219) X dX13_next_219 ?_
    refine J_lor (pc := 220) X dX13_next_220 ?_
    refine J_putL (pc := 221) X ly155 fp_13_185 dX13_next_221 ?_
    refine J_ltH hq (fun h37 hq => ?_)
    refine J_sub [1, 2, 0] rfl ?_
    exact tB_X13_next_224 X _ _ _ _ _ _ hk274 hself hq
theorem tB_X13_next_177 {κ : Kx} (X : OK κ cX13_next 4 (none) "StruckWordsModel" 2) (x2 : Int32) (k274 : Int32 → Hp → Option Hp) (self : Int32 → Hp → Option Hp) (x3 : Int32) (h : Hp) (q : Hp) (hk274 : ∀ (x3 : Int32) (h : Hp) (q : Hp), k274 x3 h = some q → J κ 274 [(0, .inr (.inr 155)), (2, .inl x2), (3, .inl x3)] [] h (none, q)) (hself : ∀ (x3 : Int32) (h : Hp) (q : Hp), self x3 h = some q → J κ 157 [(0, .inr (.inr 155)), (2, .inl x2), (3, .inl x3)] [] h (none, q)) (hq : B_X13_next_177 x2 k274 self x3 h = some q) : J κ 177 [(0, .inr (.inr 155)), (2, .inl x2), (3, .inl x3)] [] h (none, q) := by
  delta B_X13_next_177 at hq
  refine J_iload_n (pc := 177) X (j := 2) (i := 3) rfl rfl dX13_next_177 ?_
  refine J_if_eq (pc := 178) (tgt := 196) X dX13_next_178 rfl (fun c27 => ?_) (fun c27 => ?_)
  · have hq := ite_t hq c27
    refine J_iconst (pc := 196) X (v := 0) (by decide) dX13_next_196 ?_
    refine J_sub [0, 1] rfl ?_
    exact tB_X13_next_197 X _ _ _ _ _ _ hk274 hself hq
  · have hq := ite_f hq c27
    refine J_aload_n (pc := 181) X (j := 0) (i := 0) rfl rfl dX13_next_181 ?_
    obtain ⟨v39, h38, hc, hq⟩ := bnd_e hq
    refine J_callV (pc := 182) (as := []) (st := []) (st2 := [.inl v39]) (r1 := (some (.inl v39), h38)) (h2 := h38) (ky := 1) X dX13_next_182 ca_X13_peek ci_X13_peek cs_X13_peek ml_13_162 (by decide) ly155 rfl rfl (m_X13_peek _ _ hc) rfl rfl (Nat.le_of_ble_eq_true rfl) rfl rfl ?_
    obtain ⟨v41, h40, hc, hq⟩ := bnd_e hq
    refine J_callS (pc := 185) (as := [.inl v39]) (st := []) (st2 := [.inl v41]) (r1 := (some (.inl v41), h40)) (h2 := h40) (ky := 1) X dX13_next_185 ca_X13_isSmall cz_X13_isSmall ml_13_175 (by decide) (m_X13_isSmall _ _ _ hc) rfl rfl (Nat.le_of_ble_eq_true rfl) rfl rfl ?_
    refine J_iload_n (pc := 188) X (j := 1) (i := 2) rfl rfl dX13_next_188 ?_
    refine J_icmp_ne (pc := 189) (tgt := 196) X dX13_next_189 rfl (fun c42 => ?_) (fun c42 => ?_)
    · have hq := ite_f hq c42
      refine J_iconst (pc := 196) X (v := 0) (by decide) dX13_next_196 ?_
      refine J_sub [0, 1] rfl ?_
      exact tB_X13_next_197 X _ _ _ _ _ _ hk274 hself hq
    · have hq := ite_t hq c42
      refine J_iconst (pc := 192) X (v := 1) (by decide) dX13_next_192 ?_
      refine J_goto (pc := 193) X (tgt := 197) dX13_next_193 rfl ?_
      refine J_sub [0, 1] rfl ?_
      exact tB_X13_next_197 X _ _ _ _ _ _ hk274 hself hq
theorem tF_X13_next_157 {κ : Kx} (X : OK κ cX13_next 4 (none) "StruckWordsModel" 2) (x2 : Int32) (k274 : Int32 → Hp → Option Hp) (self : Int32 → Hp → Option Hp) (x3 : Int32) (h : Hp) (q : Hp) (hk274 : ∀ (x3 : Int32) (h : Hp) (q : Hp), k274 x3 h = some q → J κ 274 [(0, .inr (.inr 155)), (2, .inl x2), (3, .inl x3)] [] h (none, q)) (hself : ∀ (x3 : Int32) (h : Hp) (q : Hp), self x3 h = some q → J κ 157 [(0, .inr (.inr 155)), (2, .inl x2), (3, .inl x3)] [] h (none, q)) (hq : F_X13_next_157 x2 k274 self x3 h = some q) : J κ 157 [(0, .inr (.inr 155)), (2, .inl x2), (3, .inl x3)] [] h (none, q) := by
  delta F_X13_next_157 at hq
  refine J_aload_n (pc := 157) X (j := 0) (i := 0) rfl rfl dX13_next_157 ?_
  obtain ⟨v23, h22, hc, hq⟩ := bnd_e hq
  refine J_callV (pc := 158) (as := []) (st := []) (st2 := [.inl v23]) (r1 := (some (.inl v23), h22)) (h2 := h22) (ky := 1) X dX13_next_158 ca_X13_peek ci_X13_peek cs_X13_peek ml_13_162 (by decide) ly155 rfl rfl (m_X13_peek _ _ hc) rfl rfl (Nat.le_of_ble_eq_true rfl) rfl rfl ?_
  obtain ⟨v25, h24, hc, hq⟩ := bnd_e hq
  refine J_callS (pc := 161) (as := [.inl v23]) (st := []) (st2 := [.inl v25]) (r1 := (some (.inl v25), h24)) (h2 := h24) (ky := 1) X dX13_next_161 ca_X13_isSmall cz_X13_isSmall ml_13_175 (by decide) (m_X13_isSmall _ _ _ hc) rfl rfl (Nat.le_of_ble_eq_true rfl) rfl rfl ?_
  refine J_if_ne (pc := 164) (tgt := 177) X dX13_next_164 rfl (fun c26 => ?_) (fun c26 => ?_)
  · have hq := ite_f hq c26
    exact tB_X13_next_177 X _ _ _ _ _ _ hk274 hself hq
  · have hq := ite_t hq c26
    refine J_aload_n (pc := 167) X (j := 0) (i := 0) rfl rfl dX13_next_167 ?_
    obtain ⟨v44, h43, hc, hq⟩ := bnd_e hq
    refine J_callV (pc := 168) (as := []) (st := []) (st2 := [.inl v44]) (r1 := (some (.inl v44), h43)) (h2 := h43) (ky := 1) X dX13_next_168 ca_X13_peek ci_X13_peek cs_X13_peek ml_13_162 (by decide) ly155 rfl rfl (m_X13_peek _ _ hc) rfl rfl (Nat.le_of_ble_eq_true rfl) rfl rfl ?_
    obtain ⟨v46, h45, hc, hq⟩ := bnd_e hq
    refine J_callS (pc := 171) (as := [.inl v44]) (st := []) (st2 := [.inl v46]) (r1 := (some (.inl v46), h45)) (h2 := h45) (ky := 1) X dX13_next_171 ca_X13_isDigit cz_X13_isDigit ml_13_179 (by decide) (m_X13_isDigit _ _ _ hc) rfl rfl (Nat.le_of_ble_eq_true rfl) rfl rfl ?_
    refine J_if_eq (pc := 174) (tgt := 274) X dX13_next_174 rfl (fun c47 => ?_) (fun c47 => ?_)
    · have hq := ite_t hq c47
      exact hk274 _ _ _ hq
    · have hq := ite_f hq c47
      exact tB_X13_next_177 X _ _ _ _ _ _ hk274 hself hq
theorem tL_X13_next_157 {κ : Kx} (X : OK κ cX13_next 4 (none) "StruckWordsModel" 2) (x2 : Int32) (k274 : Int32 → Hp → Option Hp) (N : Nat) (x3 : Int32) (h : Hp) (q : Hp) (hk274 : ∀ (x3 : Int32) (h : Hp) (q : Hp), k274 x3 h = some q → J κ 274 [(0, .inr (.inr 155)), (2, .inl x2), (3, .inl x3)] [] h (none, q)) (hq : itr2 (F_X13_next_157 x2 k274) N x3 h = some q) : J κ 157 [(0, .inr (.inr 155)), (2, .inl x2), (3, .inl x3)] [] h (none, q) :=
  itr2_ind (fun self hs x3 h q hq => tF_X13_next_157 X x2 k274 self x3 h q hk274 hs hq) N x3 h q hq
theorem tB_X13_next_309 {κ : Kx} (X : OK κ cX13_next 4 (none) "StruckWordsModel" 2) (t0 : Int32) (h : Hp) (q : Hp) (hq : B_X13_next_309 t0 h = some q) : J κ 309 [] [.inl t0, .inr (.inr 155)] h (none, q) := by
  delta B_X13_next_309 at hq
  refine J_putI (pc := 309) X ly155 fp_13_172 dX13_next_309 ?_
  refine J_ltH hq (fun h51 hq => ?_)
  obtain rfl := Option.some.inj hq
  exact J_vret (pc := 312) X dX13_next_312
theorem tB_X13_next_293 {κ : Kx} (X : OK κ cX13_next 4 (none) "StruckWordsModel" 2) (x2 : Int32) (t0 : Int32) (t1 : Int32) (h : Hp) (q : Hp) (hq : B_X13_next_293 x2 t0 t1 h = some q) : J κ 293 [(2, .inl x2)] [.inl t0, .inl t1, .inr (.inr 155)] h (none, q) := by
  delta B_X13_next_293 at hq
  refine J_icmp_le (pc := 293) (tgt := 300) X dX13_next_293 rfl (fun c53 => ?_) (fun c53 => ?_)
  · have hq := ite_t hq c53
    refine J_iload_n (pc := 300) X (j := 0) (i := 2) rfl rfl dX13_next_300 ?_
    refine J_if_eq (pc := 301) (tgt := 308) X dX13_next_301 rfl (fun c54 => ?_) (fun c54 => ?_)
    · have hq := ite_t hq c54
      refine J_iconst (pc := 308) X (v := 2) (by decide) dX13_next_308 ?_
      refine J_sub [] rfl ?_
      exact tB_X13_next_309 X _ _ _ hq
    · have hq := ite_f hq c54
      refine J_iconst (pc := 304) X (v := 1) (by decide) dX13_next_304 ?_
      refine J_goto (pc := 305) X (tgt := 309) dX13_next_305 rfl ?_
      refine J_sub [] rfl ?_
      exact tB_X13_next_309 X _ _ _ hq
  · have hq := ite_f hq c53
    refine J_iconst (pc := 296) X (v := 4) (by decide) dX13_next_296 ?_
    refine J_goto (pc := 297) X (tgt := 309) dX13_next_297 rfl ?_
    refine J_sub [] rfl ?_
    exact tB_X13_next_309 X _ _ _ hq
theorem tB_X13_next_140 {κ : Kx} (X : OK κ cX13_next 4 (none) "StruckWordsModel" 2) (x1 : Int32) (h : Hp) (q : Hp) (hq : B_X13_next_140 x1 h = some q) : J κ 140 [(0, .inr (.inr 155)), (1, .inl x1)] [] h (none, q) := by
  delta B_X13_next_140 at hq
  refine J_iload_n (pc := 140) X (j := 1) (i := 1) rfl rfl dX13_next_140 ?_
  obtain ⟨v19, h18, hc, hq⟩ := bnd_e hq
  refine J_callS (pc := 141) (as := [.inl x1]) (st := []) (st2 := [.inl v19]) (r1 := (some (.inl v19), h18)) (h2 := h18) (ky := 1) X dX13_next_141 ca_X13_isSmall cz_X13_isSmall ml_13_175 (by decide) (m_X13_isSmall _ _ _ hc) rfl rfl (Nat.le_of_ble_eq_true rfl) rfl rfl ?_
  refine J_istore_n (pc := 144) X (L' := [(2, .inl v19), (0, .inr (.inr 155)), (1, .inl x1)]) (i := 2) rfl (by decide) rfl dX13_next_144 ?_
  refine J_iconst (pc := 145) X (v := 1) (by decide) dX13_next_145 ?_
  refine J_istore_n (pc := 146) X (L' := [(3, .inl 1), (2, .inl v19), (0, .inr (.inr 155)), (1, .inl x1)]) (i := 3) rfl (by decide) rfl dX13_next_146 ?_
  refine J_aload_n (pc := 147) X (j := 2) (i := 0) rfl rfl dX13_next_147 ?_
  refine J_lconst (pc := 148) X (v := 0) (by decide) dX13_next_148 ?_
  refine J_putL (pc := 149) X ly155 fp_13_185 dX13_next_149 ?_
  refine J_ltH hq (fun h20 hq => ?_)
  refine J_aload_n (pc := 152) X (j := 2) (i := 0) rfl rfl dX13_next_152 ?_
  refine J_iconst (pc := 153) X (v := 0) (by decide) dX13_next_153 ?_
  refine J_putI (pc := 154) X ly155 fp_13_182 dX13_next_154 ?_
  refine J_ltH hq (fun h21 hq => ?_)
  refine J_sub [2, 1, 0] rfl ?_
  refine tL_X13_next_157 X _ _ N0 _ _ _ ?_ hq
  · intro v49 h48 q hq
    refine J_aload_n (pc := 274) X (j := 0) (i := 0) rfl rfl dX13_next_274 ?_
    refine J_iload_n (pc := 275) X (j := 2) (i := 3) rfl rfl dX13_next_275 ?_
    refine J_if_eq (pc := 276) (tgt := 296) X dX13_next_276 rfl (fun c50 => ?_) (fun c50 => ?_)
    · have hq := ite_t hq c50
      refine J_iconst (pc := 296) X (v := 4) (by decide) dX13_next_296 ?_
      refine J_goto (pc := 297) X (tgt := 309) dX13_next_297 rfl ?_
      refine J_sub [] rfl ?_
      exact tB_X13_next_309 X _ _ _ hq
    · have hq := ite_f hq c50
      refine J_aload_n (pc := 279) X (j := 0) (i := 0) rfl rfl dX13_next_279 ?_
      refine J_getI (pc := 280) X ly155 fl_13_169 dX13_next_280 ?_
      refine J_iload_n (pc := 283) X (j := 1) (i := 2) rfl rfl dX13_next_283 ?_
      refine J_if_eq (pc := 284) (tgt := 292) X dX13_next_284 rfl (fun c52 => ?_) (fun c52 => ?_)
      · have hq := ite_t hq c52
        refine J_iconst (pc := 292) X (v := 2) (by decide) dX13_next_292 ?_
        refine J_sub [1] rfl ?_
        exact tB_X13_next_293 X _ _ _ _ _ hq
      · have hq := ite_f hq c52
        refine J_bipush (pc := 287) X (v := 6) (by decide) dX13_next_287 ?_
        refine J_goto (pc := 289) X (tgt := 293) dX13_next_289 rfl ?_
        refine J_sub [1] rfl ?_
        exact tB_X13_next_293 X _ _ _ _ _ hq
theorem tB_X13_next_121 {κ : Kx} (X : OK κ cX13_next 4 (none) "StruckWordsModel" 2) (x1 : Int32) (t0 : Int32) (h : Hp) (q : Hp) (hq : B_X13_next_121 x1 t0 h = some q) : J κ 121 [(0, .inr (.inr 155)), (1, .inl x1)] [.inl t0, .inr (.inr 155)] h (none, q) := by
  delta B_X13_next_121 at hq
  refine J_putI (pc := 121) X ly155 fp_13_172 dX13_next_121 ?_
  refine J_ltH hq (fun h59 hq => ?_)
  refine J_aload_n (pc := 124) X (j := 0) (i := 0) rfl rfl dX13_next_124 ?_
  refine J_iload_n (pc := 125) X (j := 1) (i := 1) rfl rfl dX13_next_125 ?_
  refine J_putI (pc := 126) X ly155 fp_13_182 dX13_next_126 ?_
  refine J_ltH hq (fun h60 hq => ?_)
  refine J_aload_n (pc := 129) X (j := 0) (i := 0) rfl rfl dX13_next_129 ?_
  refine J_dup (pc := 130) X rfl dX13_next_130 ?_
  refine J_getI (pc := 131) X ly155 fl_13_21 dX13_next_131 ?_
  refine J_iconst (pc := 134) X (v := 1) (by decide) dX13_next_134 ?_
  refine J_iadd (pc := 135) X dX13_next_135 ?_
  refine J_putI (pc := 136) X ly155 fp_13_21 dX13_next_136 ?_
  refine J_ltH hq (fun h61 hq => ?_)
  obtain rfl := Option.some.inj hq
  exact J_vret (pc := 139) X dX13_next_139
theorem tB_X13_next_80 {κ : Kx} (X : OK κ cX13_next 4 (none) "StruckWordsModel" 2) (h : Hp) (q : Hp) (hq : B_X13_next_80 h = some q) : J κ 80 [(0, .inr (.inr 155))] [] h (none, q) := by
  delta B_X13_next_80 at hq
  refine J_aload_n (pc := 80) X (j := 0) (i := 0) rfl rfl dX13_next_80 ?_
  obtain ⟨v13, h12, hc, hq⟩ := bnd_e hq
  refine J_callV (pc := 81) (as := []) (st := []) (st2 := [.inl v13]) (r1 := (some (.inl v13), h12)) (h2 := h12) (ky := 1) X dX13_next_81 ca_X13_peek ci_X13_peek cs_X13_peek ml_13_162 (by decide) ly155 rfl rfl (m_X13_peek _ _ hc) rfl rfl (Nat.le_of_ble_eq_true rfl) rfl rfl ?_
  refine J_istore_n (pc := 84) X (L' := [(1, .inl v13), (0, .inr (.inr 155))]) (i := 1) rfl (by decide) rfl dX13_next_84 ?_
  refine J_iload_n (pc := 85) X (j := 0) (i := 1) rfl rfl dX13_next_85 ?_
  refine J_if_ge (pc := 86) (tgt := 95) X dX13_next_86 rfl (fun c14 => ?_) (fun c14 => ?_)
  · have hq := ite_t hq c14
    refine J_iload_n (pc := 95) X (j := 0) (i := 1) rfl rfl dX13_next_95 ?_
    obtain ⟨v16, h15, hc, hq⟩ := bnd_e hq
    refine J_callS (pc := 96) (as := [.inl v13]) (st := []) (st2 := [.inl v16]) (r1 := (some (.inl v16), h15)) (h2 := h15) (ky := 1) X dX13_next_96 ca_X13_isSmall cz_X13_isSmall ml_13_175 (by decide) (m_X13_isSmall _ _ _ hc) rfl rfl (Nat.le_of_ble_eq_true rfl) rfl rfl ?_
    refine J_if_ne (pc := 99) (tgt := 140) X dX13_next_99 rfl (fun c17 => ?_) (fun c17 => ?_)
    · have hq := ite_f hq c17
      refine J_sub [1, 0] rfl ?_
      exact tB_X13_next_140 X _ _ _ hq
    · have hq := ite_t hq c17
      refine J_iload_n (pc := 102) X (j := 0) (i := 1) rfl rfl dX13_next_102 ?_
      obtain ⟨v56, h55, hc, hq⟩ := bnd_e hq
      refine J_callS (pc := 103) (as := [.inl v13]) (st := []) (st2 := [.inl v56]) (r1 := (some (.inl v56), h55)) (h2 := h55) (ky := 1) X dX13_next_103 ca_X13_isDigit cz_X13_isDigit ml_13_179 (by decide) (m_X13_isDigit _ _ _ hc) rfl rfl (Nat.le_of_ble_eq_true rfl) rfl rfl ?_
      refine J_if_ne (pc := 106) (tgt := 140) X dX13_next_106 rfl (fun c57 => ?_) (fun c57 => ?_)
      · have hq := ite_f hq c57
        refine J_sub [1, 0] rfl ?_
        exact tB_X13_next_140 X _ _ _ hq
      · have hq := ite_t hq c57
        refine J_aload_n (pc := 109) X (j := 1) (i := 0) rfl rfl dX13_next_109 ?_
        refine J_iload_n (pc := 110) X (j := 0) (i := 1) rfl rfl dX13_next_110 ?_
        refine J_bipush (pc := 111) X (v := 59) (by decide) dX13_next_111 ?_
        refine J_icmp_ne (pc := 113) (tgt := 120) X dX13_next_113 rfl (fun c58 => ?_) (fun c58 => ?_)
        · have hq := ite_f hq c58
          refine J_iconst (pc := 120) X (v := 4) (by decide) dX13_next_120 ?_
          refine J_sub [1, 0] rfl ?_
          exact tB_X13_next_121 X _ _ _ _ hq
        · have hq := ite_t hq c58
          refine J_iconst (pc := 116) X (v := 3) (by decide) dX13_next_116 ?_
          refine J_goto (pc := 117) X (tgt := 121) dX13_next_117 rfl ?_
          refine J_sub [1, 0] rfl ?_
          exact tB_X13_next_121 X _ _ _ _ hq
  · have hq := ite_f hq c14
    refine J_aload_n (pc := 89) X (j := 1) (i := 0) rfl rfl dX13_next_89 ?_
    refine J_iconst (pc := 90) X (v := 0) (by decide) dX13_next_90 ?_
    refine J_putI (pc := 91) X ly155 fp_13_172 dX13_next_91 ?_
    refine J_ltH hq (fun h62 hq => ?_)
    obtain rfl := Option.some.inj hq
    exact J_vret (pc := 94) X dX13_next_94
theorem tf_X13_next {κ : Kx} (X : OK κ cX13_next 4 (none) "StruckWordsModel" 2) (h : Hp) (q : Hp) (hq : f_X13_next h = some q) : J κ 0 [(0, .inr (.inr 155))] [] h (none, q) := by
  delta f_X13_next at hq
  refine tL_X13_next_0 X _ N0 _ _ ?_ hq
  · intro h8 q hq
    refine J_aload_n (pc := 31) X (j := 0) (i := 0) rfl rfl dX13_next_31 ?_
    refine J_aload_n (pc := 32) X (j := 0) (i := 0) rfl rfl dX13_next_32 ?_
    refine J_getI (pc := 33) X ly155 fl_13_21 dX13_next_33 ?_
    refine J_putI (pc := 36) X ly155 fp_13_166 dX13_next_36 ?_
    refine J_ltH hq (fun h9 hq => ?_)
    refine J_aload_n (pc := 39) X (j := 0) (i := 0) rfl rfl dX13_next_39 ?_
    refine J_iconst (pc := 40) X (v := 0) (by decide) dX13_next_40 ?_
    refine J_putI (pc := 41) X ly155 fp_13_169 dX13_next_41 ?_
    refine J_ltH hq (fun h10 hq => ?_)
    refine J_aload_n (pc := 44) X (j := 0) (i := 0) rfl rfl dX13_next_44 ?_
    refine J_getI (pc := 45) X ly155 fl_13_18 dX13_next_45 ?_
    refine J_aload_n (pc := 48) X (j := 0) (i := 0) rfl rfl dX13_next_48 ?_
    refine J_getI (pc := 49) X ly155 fl_13_24 dX13_next_49 ?_
    refine J_icmp_le (pc := 52) (tgt := 80) X dX13_next_52 rfl (fun c11 => ?_) (fun c11 => ?_)
    · have hq := ite_t hq c11
      exact tB_X13_next_80 X _ _ hq
    · have hq := ite_f hq c11
      refine J_aload_n (pc := 55) X (j := 0) (i := 0) rfl rfl dX13_next_55 ?_
      refine J_getI (pc := 56) X ly155 fl_13_21 dX13_next_56 ?_
      refine J_aload_n (pc := 59) X (j := 0) (i := 0) rfl rfl dX13_next_59 ?_
      refine J_getI (pc := 60) X ly155 fl_13_24 dX13_next_60 ?_
      refine J_icmp_lt (pc := 63) (tgt := 80) X dX13_next_63 rfl (fun c63 => ?_) (fun c63 => ?_)
      · have hq := ite_t hq c63
        exact tB_X13_next_80 X _ _ hq
      · have hq := ite_f hq c63
        refine J_aload_n (pc := 66) X (j := 0) (i := 0) rfl rfl dX13_next_66 ?_
        refine J_aload_n (pc := 67) X (j := 0) (i := 0) rfl rfl dX13_next_67 ?_
        refine J_getI (pc := 68) X ly155 fl_13_24 dX13_next_68 ?_
        refine J_putI (pc := 71) X ly155 fp_13_166 dX13_next_71 ?_
        refine J_ltH hq (fun h64 hq => ?_)
        refine J_aload_n (pc := 74) X (j := 0) (i := 0) rfl rfl dX13_next_74 ?_
        refine J_iconst (pc := 75) X (v := 4) (by decide) dX13_next_75 ?_
        refine J_putI (pc := 76) X ly155 fp_13_172 dX13_next_76 ?_
        refine J_ltH hq (fun h65 hq => ?_)
        obtain rfl := Option.some.inj hq
        exact J_vret (pc := 79) X dX13_next_79
theorem m_X13_next (h : Hp) (q : Hp) (hq : f_X13_next  h = some q) : ∀ l w, CT l w yX13_next cX13_next 4 (none) 2 [.inr (.inr 155)] h (none, q) :=
  CT_of (L0 := [(0, .inr (.inr 155))]) (by decide) rfl (Nat.le_of_ble_eq_true rfl) (fun κ X => tf_X13_next X  h q  hq)
theorem tf_X13_bad {κ : Kx} (X : OK κ cX13_bad 2 (some .boolean) "StruckWordsModel" 1) (x1 : Int32) (h : Hp) (q : (Int32 × Hp)) (hq : f_X13_bad x1 h = some q) : J κ 0 [(0, .inr (.inr 155)), (1, .inl x1)] [] h (some (.inl q.1), q.2) := by
  delta f_X13_bad at hq
  refine J_aload_n (pc := 0) X (j := 0) (i := 0) rfl rfl dX13_bad_0 ?_
  refine J_iload_n (pc := 1) X (j := 1) (i := 1) rfl rfl dX13_bad_1 ?_
  refine J_putI (pc := 2) X ly155 fp_13_189 dX13_bad_2 ?_
  refine J_ltH hq (fun h1 hq => ?_)
  refine J_aload_n (pc := 5) X (j := 0) (i := 0) rfl rfl dX13_bad_5 ?_
  refine J_aload_n (pc := 6) X (j := 0) (i := 0) rfl rfl dX13_bad_6 ?_
  refine J_getI (pc := 7) X ly155 fl_13_166 dX13_bad_7 ?_
  refine J_putI (pc := 10) X ly155 fp_13_192 dX13_bad_10 ?_
  refine J_ltH hq (fun h2 hq => ?_)
  refine J_iconst (pc := 13) X (v := 0) (by decide) dX13_bad_13 ?_
  obtain rfl := Option.some.inj hq
  exact J_zret (pc := 14) X (by decide) dX13_bad_14
theorem m_X13_bad (x1 : Int32) (h : Hp) (q : (Int32 × Hp)) (hq : f_X13_bad x1 h = some q) : ∀ l w, CT l w yX13_bad cX13_bad 2 (some .boolean) 1 [.inr (.inr 155), .inl x1] h (some (.inl q.1), q.2) :=
  CT_of (L0 := [(0, .inr (.inr 155)), (1, .inl x1)]) (by decide) rfl (Nat.le_of_ble_eq_true rfl) (fun κ X => tf_X13_bad X x1 h q  hq)
theorem tf_X13_isWord {κ : Kx} (X : OK κ cX13_isWord 3 (some .boolean) "StruckWordsModel" 1) (x1 : Int64) (h : Hp) (q : (Int32 × Hp)) (hq : f_X13_isWord x1 h = some q) : J κ 0 [(0, .inr (.inr 155)), (1, .inr (.inl x1))] [] h (some (.inl q.1), q.2) := by
  delta f_X13_isWord at hq
  refine J_aload_n (pc := 0) X (j := 0) (i := 0) rfl rfl dX13_isWord_0 ?_
  refine J_getI (pc := 1) X ly155 fl_13_172 dX13_isWord_1 ?_
  refine J_iconst (pc := 4) X (v := 1) (by decide) dX13_isWord_4 ?_
  refine J_icmp_ne (pc := 5) (tgt := 21) X dX13_isWord_5 rfl (fun c1 => ?_) (fun c1 => ?_)
  · have hq := ite_f hq c1
    refine J_iconst (pc := 21) X (v := 0) (by decide) dX13_isWord_21 ?_
    obtain rfl := Option.some.inj hq
    exact J_zret (pc := 22) X (by decide) dX13_isWord_22
  · have hq := ite_t hq c1
    refine J_aload_n (pc := 8) X (j := 0) (i := 0) rfl rfl dX13_isWord_8 ?_
    refine J_getL (pc := 9) X ly155 fl_13_185 dX13_isWord_9 ?_
    refine J_lload_n (pc := 12) X (j := 1) (i := 1) rfl rfl dX13_isWord_12 ?_
    refine J_lcmp (pc := 13) X dX13_isWord_13 ?_
    refine J_if_ne (pc := 14) (tgt := 21) X dX13_isWord_14 rfl (fun c2 => ?_) (fun c2 => ?_)
    · have hq := ite_f hq c2
      refine J_iconst (pc := 21) X (v := 0) (by decide) dX13_isWord_21 ?_
      obtain rfl := Option.some.inj hq
      exact J_zret (pc := 22) X (by decide) dX13_isWord_22
    · have hq := ite_t hq c2
      refine J_iconst (pc := 17) X (v := 1) (by decide) dX13_isWord_17 ?_
      refine J_goto (pc := 18) X (tgt := 22) dX13_isWord_18 rfl ?_
      obtain rfl := Option.some.inj hq
      exact J_zret (pc := 22) X (by decide) dX13_isWord_22
theorem m_X13_isWord (x1 : Int64) (h : Hp) (q : (Int32 × Hp)) (hq : f_X13_isWord x1 h = some q) : ∀ l w, CT l w yX13_isWord cX13_isWord 3 (some .boolean) 1 [.inr (.inr 155), .inr (.inl x1)] h (some (.inl q.1), q.2) :=
  CT_of (L0 := [(0, .inr (.inr 155)), (1, .inr (.inl x1))]) (by decide) rfl (Nat.le_of_ble_eq_true rfl) (fun κ X => tf_X13_isWord X x1 h q  hq)
theorem tf_X13_isSign {κ : Kx} (X : OK κ cX13_isSign 2 (some .boolean) "StruckWordsModel" 1) (x1 : Int32) (h : Hp) (q : (Int32 × Hp)) (hq : f_X13_isSign x1 h = some q) : J κ 0 [(0, .inr (.inr 155)), (1, .inl x1)] [] h (some (.inl q.1), q.2) := by
  delta f_X13_isSign at hq
  refine J_aload_n (pc := 0) X (j := 0) (i := 0) rfl rfl dX13_isSign_0 ?_
  refine J_getI (pc := 1) X ly155 fl_13_172 dX13_isSign_1 ?_
  refine J_iconst (pc := 4) X (v := 3) (by decide) dX13_isSign_4 ?_
  refine J_icmp_ne (pc := 5) (tgt := 20) X dX13_isSign_5 rfl (fun c1 => ?_) (fun c1 => ?_)
  · have hq := ite_f hq c1
    refine J_iconst (pc := 20) X (v := 0) (by decide) dX13_isSign_20 ?_
    obtain rfl := Option.some.inj hq
    exact J_zret (pc := 21) X (by decide) dX13_isSign_21
  · have hq := ite_t hq c1
    refine J_aload_n (pc := 8) X (j := 0) (i := 0) rfl rfl dX13_isSign_8 ?_
    refine J_getI (pc := 9) X ly155 fl_13_182 dX13_isSign_9 ?_
    refine J_iload_n (pc := 12) X (j := 1) (i := 1) rfl rfl dX13_isSign_12 ?_
    refine J_icmp_ne (pc := 13) (tgt := 20) X dX13_isSign_13 rfl (fun c2 => ?_) (fun c2 => ?_)
    · have hq := ite_f hq c2
      refine J_iconst (pc := 20) X (v := 0) (by decide) dX13_isSign_20 ?_
      obtain rfl := Option.some.inj hq
      exact J_zret (pc := 21) X (by decide) dX13_isSign_21
    · have hq := ite_t hq c2
      refine J_iconst (pc := 16) X (v := 1) (by decide) dX13_isSign_16 ?_
      refine J_goto (pc := 17) X (tgt := 21) dX13_isSign_17 rfl ?_
      obtain rfl := Option.some.inj hq
      exact J_zret (pc := 21) X (by decide) dX13_isSign_21
theorem m_X13_isSign (x1 : Int32) (h : Hp) (q : (Int32 × Hp)) (hq : f_X13_isSign x1 h = some q) : ∀ l w, CT l w yX13_isSign cX13_isSign 2 (some .boolean) 1 [.inr (.inr 155), .inl x1] h (some (.inl q.1), q.2) :=
  CT_of (L0 := [(0, .inr (.inr 155)), (1, .inl x1)]) (by decide) rfl (Nat.le_of_ble_eq_true rfl) (fun κ X => tf_X13_isSign X x1 h q  hq)
theorem tf_X13_sign {κ : Kx} (X : OK κ cX13_sign 2 (some .boolean) "StruckWordsModel" 3) (x1 : Int32) (h : Hp) (q : (Int32 × Hp)) (hq : f_X13_sign x1 h = some q) : J κ 0 [(0, .inr (.inr 155)), (1, .inl x1)] [] h (some (.inl q.1), q.2) := by
  delta f_X13_sign at hq
  refine J_aload_n (pc := 0) X (j := 0) (i := 0) rfl rfl dX13_sign_0 ?_
  refine J_iload_n (pc := 1) X (j := 1) (i := 1) rfl rfl dX13_sign_1 ?_
  obtain ⟨v2, h1, hc, hq⟩ := bnd_e hq
  refine J_callV (pc := 2) (as := [.inl x1]) (st := []) (st2 := [.inl v2]) (r1 := (some (.inl v2), h1)) (h2 := h1) (ky := 1) X dX13_sign_2 ca_X13_isSign ci_X13_isSign cs_X13_isSign ml_13_195 (by decide) ly155 rfl rfl (m_X13_isSign _ _ _ hc) rfl rfl (Nat.le_of_ble_eq_true rfl) rfl rfl ?_
  refine J_if_ne (pc := 5) (tgt := 14) X dX13_sign_5 rfl (fun c3 => ?_) (fun c3 => ?_)
  · have hq := ite_f hq c3
    refine J_aload_n (pc := 14) X (j := 0) (i := 0) rfl rfl dX13_sign_14 ?_
    obtain ⟨h4, hc, hq⟩ := bnv_e hq
    refine J_callV (pc := 15) (as := []) (st := []) (st2 := []) (r1 := (none, h4)) (h2 := h4) (ky := 2) X dX13_sign_15 ca_X13_next ci_X13_next cs_X13_next ml_13_201 (by decide) ly155 rfl rfl (m_X13_next _ _ hc) rfl rfl (Nat.le_of_ble_eq_true rfl) rfl rfl ?_
    refine J_iconst (pc := 18) X (v := 1) (by decide) dX13_sign_18 ?_
    obtain rfl := Option.some.inj hq
    exact J_zret (pc := 19) X (by decide) dX13_sign_19
  · have hq := ite_t hq c3
    refine J_aload_n (pc := 8) X (j := 0) (i := 0) rfl rfl dX13_sign_8 ?_
    refine J_iconst (pc := 9) X (v := 1) (by decide) dX13_sign_9 ?_
    obtain ⟨v6, h5, hc, hq⟩ := bnd_e hq
    refine J_callV (pc := 10) (as := [.inl 1]) (st := []) (st2 := [.inl v6]) (r1 := (some (.inl v6), h5)) (h2 := h5) (ky := 1) X dX13_sign_10 ca_X13_bad ci_X13_bad cs_X13_bad ml_13_198 (by decide) ly155 rfl rfl (m_X13_bad _ _ _ hc) rfl rfl (Nat.le_of_ble_eq_true rfl) rfl rfl ?_
    obtain ⟨g7, hq⟩ := gd hq
    obtain rfl := Option.some.inj hq
    exact J_zret (pc := 13) X g7 dX13_sign_13
theorem m_X13_sign (x1 : Int32) (h : Hp) (q : (Int32 × Hp)) (hq : f_X13_sign x1 h = some q) : ∀ l w, CT l w yX13_sign cX13_sign 2 (some .boolean) 3 [.inr (.inr 155), .inl x1] h (some (.inl q.1), q.2) :=
  CT_of (L0 := [(0, .inr (.inr 155)), (1, .inl x1)]) (by decide) rfl (Nat.le_of_ble_eq_true rfl) (fun κ X => tf_X13_sign X x1 h q  hq)
theorem tF_X13_isName_16 {κ : Kx} (X : OK κ cX13_isName 3 (some .boolean) "StruckWordsModel" 1) (k52 : Int32 → Hp → Option (Int32 × Hp)) (self : Int32 → Int32 → Hp → Option (Int32 × Hp)) (x1 : Int32) (x2 : Int32) (h : Hp) (q : (Int32 × Hp)) (hk52 : ∀ (x1 : Int32) (h : Hp) (q : (Int32 × Hp)), k52 x1 h = some q → J κ 52 [(1, .inl x1)] [] h (some (.inl q.1), q.2)) (hself : ∀ (x1 : Int32) (x2 : Int32) (h : Hp) (q : (Int32 × Hp)), self x1 x2 h = some q → J κ 16 [(0, .inr (.inr 155)), (1, .inl x1), (2, .inl x2)] [] h (some (.inl q.1), q.2)) (hq : F_X13_isName_16 k52 self x1 x2 h = some q) : J κ 16 [(0, .inr (.inr 155)), (1, .inl x1), (2, .inl x2)] [] h (some (.inl q.1), q.2) := by
  delta F_X13_isName_16 at hq
  refine J_iload_n (pc := 16) X (j := 2) (i := 2) rfl rfl dX13_isName_16 ?_
  refine J_bipush (pc := 17) X (v := 16) (by decide) dX13_isName_17 ?_
  refine J_icmp_ge (pc := 19) (tgt := 52) X dX13_isName_19 rfl (fun c2 => ?_) (fun c2 => ?_)
  · have hq := ite_t hq c2
    refine J_sub [1] rfl ?_
    exact hk52 _ _ _ hq
  · have hq := ite_f hq c2
    refine J_iload_n (pc := 22) X (j := 1) (i := 1) rfl rfl dX13_isName_22 ?_
    refine J_if_eq (pc := 23) (tgt := 44) X dX13_isName_23 rfl (fun c3 => ?_) (fun c3 => ?_)
    · have hq := ite_t hq c3
      refine J_iconst (pc := 44) X (v := 0) (by decide) dX13_isName_44 ?_
      refine J_istore_n (pc := 45) X (L' := [(1, .inl 0), (0, .inr (.inr 155)), (2, .inl x2)]) (i := 1) rfl (by decide) rfl dX13_isName_45 ?_
      refine J_iinc (pc := 46) X (j := 2) (v := 1) (L' := [(2, .inl (x2 + 1)), (1, .inl 0), (0, .inr (.inr 155))]) rfl (by decide) (by decide) rfl dX13_isName_46 ?_
      refine J_goto (pc := 49) X (tgt := 16) dX13_isName_49 rfl ?_
      refine J_sub [2, 1, 0] rfl ?_
      exact hself _ _ _ _ hq
    · have hq := ite_f hq c3
      refine J_aload_n (pc := 26) X (j := 0) (i := 0) rfl rfl dX13_isName_26 ?_
      refine J_getL (pc := 27) X ly155 fl_13_185 dX13_isName_27 ?_
      refine J_aload_n (pc := 30) X (j := 0) (i := 0) rfl rfl dX13_isName_30 ?_
      refine J_getF (pc := 31) X (b := 160) ly155 fl_13_44 rfl dX13_isName_31 ?_
      refine J_iload_n (pc := 34) X (j := 2) (i := 2) rfl rfl dX13_isName_34 ?_
      obtain ⟨g4, hq⟩ := gd hq
      refine J_laload (pc := 35) X ly160 g4 dX13_isName_35 ?_
      refine J_lcmp (pc := 36) X dX13_isName_36 ?_
      refine J_if_eq (pc := 37) (tgt := 44) X dX13_isName_37 rfl (fun c5 => ?_) (fun c5 => ?_)
      · have hq := ite_t hq c5
        refine J_iconst (pc := 44) X (v := 0) (by decide) dX13_isName_44 ?_
        refine J_istore_n (pc := 45) X (L' := [(1, .inl 0), (0, .inr (.inr 155)), (2, .inl x2)]) (i := 1) rfl (by decide) rfl dX13_isName_45 ?_
        refine J_iinc (pc := 46) X (j := 2) (v := 1) (L' := [(2, .inl (x2 + 1)), (1, .inl 0), (0, .inr (.inr 155))]) rfl (by decide) (by decide) rfl dX13_isName_46 ?_
        refine J_goto (pc := 49) X (tgt := 16) dX13_isName_49 rfl ?_
        refine J_sub [2, 1, 0] rfl ?_
        exact hself _ _ _ _ hq
      · have hq := ite_f hq c5
        refine J_iconst (pc := 40) X (v := 1) (by decide) dX13_isName_40 ?_
        refine J_goto (pc := 41) X (tgt := 45) dX13_isName_41 rfl ?_
        refine J_istore_n (pc := 45) X (L' := [(1, .inl 1), (0, .inr (.inr 155)), (2, .inl x2)]) (i := 1) rfl (by decide) rfl dX13_isName_45 ?_
        refine J_iinc (pc := 46) X (j := 2) (v := 1) (L' := [(2, .inl (x2 + 1)), (1, .inl 1), (0, .inr (.inr 155))]) rfl (by decide) (by decide) rfl dX13_isName_46 ?_
        refine J_goto (pc := 49) X (tgt := 16) dX13_isName_49 rfl ?_
        refine J_sub [2, 1, 0] rfl ?_
        exact hself _ _ _ _ hq
theorem tL_X13_isName_16 {κ : Kx} (X : OK κ cX13_isName 3 (some .boolean) "StruckWordsModel" 1) (k52 : Int32 → Hp → Option (Int32 × Hp)) (N : Nat) (x1 : Int32) (x2 : Int32) (h : Hp) (q : (Int32 × Hp)) (hk52 : ∀ (x1 : Int32) (h : Hp) (q : (Int32 × Hp)), k52 x1 h = some q → J κ 52 [(1, .inl x1)] [] h (some (.inl q.1), q.2)) (hq : itr3 (F_X13_isName_16 k52) N x1 x2 h = some q) : J κ 16 [(0, .inr (.inr 155)), (1, .inl x1), (2, .inl x2)] [] h (some (.inl q.1), q.2) :=
  itr3_ind (fun self hs x1 x2 h q hq => tF_X13_isName_16 X k52 self x1 x2 h q hk52 hs hq) N x1 x2 h q hq
theorem tf_X13_isName {κ : Kx} (X : OK κ cX13_isName 3 (some .boolean) "StruckWordsModel" 1) (h : Hp) (q : (Int32 × Hp)) (hq : f_X13_isName h = some q) : J κ 0 [(0, .inr (.inr 155))] [] h (some (.inl q.1), q.2) := by
  delta f_X13_isName at hq
  refine J_aload_n (pc := 0) X (j := 0) (i := 0) rfl rfl dX13_isName_0 ?_
  refine J_getI (pc := 1) X ly155 fl_13_172 dX13_isName_1 ?_
  refine J_iconst (pc := 4) X (v := 1) (by decide) dX13_isName_4 ?_
  refine J_icmp_ne (pc := 5) (tgt := 12) X dX13_isName_5 rfl (fun c1 => ?_) (fun c1 => ?_)
  · have hq := ite_f hq c1
    refine J_iconst (pc := 12) X (v := 0) (by decide) dX13_isName_12 ?_
    refine J_istore_n (pc := 13) X (L' := [(1, .inl 0), (0, .inr (.inr 155))]) (i := 1) rfl (by decide) rfl dX13_isName_13 ?_
    refine J_iconst (pc := 14) X (v := 0) (by decide) dX13_isName_14 ?_
    refine J_istore_n (pc := 15) X (L' := [(2, .inl 0), (1, .inl 0), (0, .inr (.inr 155))]) (i := 2) rfl (by decide) rfl dX13_isName_15 ?_
    refine J_sub [2, 1, 0] rfl ?_
    refine tL_X13_isName_16 X _ N0 _ _ _ _ ?_ hq
    · intro v7 h6 q hq
      refine J_iload_n (pc := 52) X (j := 0) (i := 1) rfl rfl dX13_isName_52 ?_
      obtain ⟨g8, hq⟩ := gd hq
      obtain rfl := Option.some.inj hq
      exact J_zret (pc := 53) X g8 dX13_isName_53
  · have hq := ite_t hq c1
    refine J_iconst (pc := 8) X (v := 1) (by decide) dX13_isName_8 ?_
    refine J_goto (pc := 9) X (tgt := 13) dX13_isName_9 rfl ?_
    refine J_istore_n (pc := 13) X (L' := [(1, .inl 1), (0, .inr (.inr 155))]) (i := 1) rfl (by decide) rfl dX13_isName_13 ?_
    refine J_iconst (pc := 14) X (v := 0) (by decide) dX13_isName_14 ?_
    refine J_istore_n (pc := 15) X (L' := [(2, .inl 0), (1, .inl 1), (0, .inr (.inr 155))]) (i := 2) rfl (by decide) rfl dX13_isName_15 ?_
    refine J_sub [2, 1, 0] rfl ?_
    refine tL_X13_isName_16 X _ N0 _ _ _ _ ?_ hq
    · intro v10 h9 q hq
      refine J_iload_n (pc := 52) X (j := 0) (i := 1) rfl rfl dX13_isName_52 ?_
      obtain ⟨g11, hq⟩ := gd hq
      obtain rfl := Option.some.inj hq
      exact J_zret (pc := 53) X g11 dX13_isName_53
theorem m_X13_isName (h : Hp) (q : (Int32 × Hp)) (hq : f_X13_isName  h = some q) : ∀ l w, CT l w yX13_isName cX13_isName 3 (some .boolean) 1 [.inr (.inr 155)] h (some (.inl q.1), q.2) :=
  CT_of (L0 := [(0, .inr (.inr 155))]) (by decide) rfl (Nat.le_of_ble_eq_true rfl) (fun κ X => tf_X13_isName X  h q  hq)
theorem tf_X13_takes {κ : Kx} (X : OK κ cX13_takes 3 (some .boolean) "StruckWordsModel" 3) (x1 : Int32) (x2 : Int32) (h : Hp) (q : (Int32 × Hp)) (hq : f_X13_takes x1 x2 h = some q) : J κ 0 [(0, .inr (.inr 155)), (1, .inl x1), (2, .inl x2)] [] h (some (.inl q.1), q.2) := by
  delta f_X13_takes at hq
  refine J_aload_n (pc := 0) X (j := 0) (i := 0) rfl rfl dX13_takes_0 ?_
  refine J_getI (pc := 1) X ly155 fl_13_172 dX13_takes_1 ?_
  refine J_iconst (pc := 4) X (v := 2) (by decide) dX13_takes_4 ?_
  refine J_icmp_eq (pc := 5) (tgt := 14) X dX13_takes_5 rfl (fun c1 => ?_) (fun c1 => ?_)
  · have hq := ite_t hq c1
    refine J_aload_n (pc := 14) X (j := 0) (i := 0) rfl rfl dX13_takes_14 ?_
    refine J_getI (pc := 15) X ly155 fl_13_182 dX13_takes_15 ?_
    refine J_iload_n (pc := 18) X (j := 1) (i := 1) rfl rfl dX13_takes_18 ?_
    refine J_iload_n (pc := 19) X (j := 2) (i := 2) rfl rfl dX13_takes_19 ?_
    obtain ⟨v3, h2, hc, hq⟩ := bnd_e hq
    refine J_callS (pc := 20) (as := [.inl (h.1 155 13), .inl x1, .inl x2]) (st := []) (st2 := [.inl v3]) (r1 := (some (.inl v3), h2)) (h2 := h2) (ky := 1) X dX13_takes_20 ca_X13_isIn cz_X13_isIn ml_13_204 (by decide) (m_X13_isIn _ _ _ _ _ hc) rfl rfl (Nat.le_of_ble_eq_true rfl) rfl rfl ?_
    refine J_if_ne (pc := 23) (tgt := 32) X dX13_takes_23 rfl (fun c4 => ?_) (fun c4 => ?_)
    · have hq := ite_f hq c4
      refine J_aload_n (pc := 32) X (j := 0) (i := 0) rfl rfl dX13_takes_32 ?_
      refine J_aload_n (pc := 33) X (j := 0) (i := 0) rfl rfl dX13_takes_33 ?_
      refine J_getI (pc := 34) X ly155 fl_13_182 dX13_takes_34 ?_
      refine J_putI (pc := 37) X ly155 fp_13_208 dX13_takes_37 ?_
      refine J_ltH hq (fun h5 hq => ?_)
      refine J_aload_n (pc := 40) X (j := 0) (i := 0) rfl rfl dX13_takes_40 ?_
      obtain ⟨h6, hc, hq⟩ := bnv_e hq
      refine J_callV (pc := 41) (as := []) (st := []) (st2 := []) (r1 := (none, h6)) (h2 := h6) (ky := 2) X dX13_takes_41 ca_X13_next ci_X13_next cs_X13_next ml_13_201 (by decide) ly155 rfl rfl (m_X13_next _ _ hc) rfl rfl (Nat.le_of_ble_eq_true rfl) rfl rfl ?_
      refine J_iconst (pc := 44) X (v := 1) (by decide) dX13_takes_44 ?_
      obtain rfl := Option.some.inj hq
      exact J_zret (pc := 45) X (by decide) dX13_takes_45
    · have hq := ite_t hq c4
      refine J_aload_n (pc := 26) X (j := 0) (i := 0) rfl rfl dX13_takes_26 ?_
      refine J_iconst (pc := 27) X (v := 2) (by decide) dX13_takes_27 ?_
      obtain ⟨v8, h7, hc, hq⟩ := bnd_e hq
      refine J_callV (pc := 28) (as := [.inl 2]) (st := []) (st2 := [.inl v8]) (r1 := (some (.inl v8), h7)) (h2 := h7) (ky := 1) X dX13_takes_28 ca_X13_bad ci_X13_bad cs_X13_bad ml_13_198 (by decide) ly155 rfl rfl (m_X13_bad _ _ _ hc) rfl rfl (Nat.le_of_ble_eq_true rfl) rfl rfl ?_
      obtain ⟨g9, hq⟩ := gd hq
      obtain rfl := Option.some.inj hq
      exact J_zret (pc := 31) X g9 dX13_takes_31
  · have hq := ite_f hq c1
    refine J_aload_n (pc := 8) X (j := 0) (i := 0) rfl rfl dX13_takes_8 ?_
    refine J_iconst (pc := 9) X (v := 1) (by decide) dX13_takes_9 ?_
    obtain ⟨v11, h10, hc, hq⟩ := bnd_e hq
    refine J_callV (pc := 10) (as := [.inl 1]) (st := []) (st2 := [.inl v11]) (r1 := (some (.inl v11), h10)) (h2 := h10) (ky := 1) X dX13_takes_10 ca_X13_bad ci_X13_bad cs_X13_bad ml_13_198 (by decide) ly155 rfl rfl (m_X13_bad _ _ _ hc) rfl rfl (Nat.le_of_ble_eq_true rfl) rfl rfl ?_
    obtain ⟨g12, hq⟩ := gd hq
    obtain rfl := Option.some.inj hq
    exact J_zret (pc := 13) X g12 dX13_takes_13
theorem m_X13_takes (x1 : Int32) (x2 : Int32) (h : Hp) (q : (Int32 × Hp)) (hq : f_X13_takes x1 x2 h = some q) : ∀ l w, CT l w yX13_takes cX13_takes 3 (some .boolean) 3 [.inr (.inr 155), .inl x1, .inl x2] h (some (.inl q.1), q.2) :=
  CT_of (L0 := [(0, .inr (.inr 155)), (1, .inl x1), (2, .inl x2)]) (by decide) rfl (Nat.le_of_ble_eq_true rfl) (fun κ X => tf_X13_takes X x1 x2 h q  hq)
theorem tF_X13_find_2 {κ : Kx} (X : OK κ cX13_find 4 (some .int) "StruckWordsModel" 1) (x1 : Int32) (x2 : Int32) (k23 : Int32 → Hp → Option (Int32 × Hp)) (k31 : Hp → Option (Int32 × Hp)) (self : Int32 → Hp → Option (Int32 × Hp)) (x3 : Int32) (h : Hp) (q : (Int32 × Hp)) (hk23 : ∀ (x3 : Int32) (h : Hp) (q : (Int32 × Hp)), k23 x3 h = some q → J κ 23 [(3, .inl x3)] [] h (some (.inl q.1), q.2)) (hk31 : ∀ (h : Hp) (q : (Int32 × Hp)), k31 h = some q → J κ 31 [] [] h (some (.inl q.1), q.2)) (hself : ∀ (x3 : Int32) (h : Hp) (q : (Int32 × Hp)), self x3 h = some q → J κ 2 [(0, .inr (.inr 155)), (1, .inl x1), (2, .inl x2), (3, .inl x3)] [] h (some (.inl q.1), q.2)) (hq : F_X13_find_2 x1 x2 k23 k31 self x3 h = some q) : J κ 2 [(0, .inr (.inr 155)), (1, .inl x1), (2, .inl x2), (3, .inl x3)] [] h (some (.inl q.1), q.2) := by
  delta F_X13_find_2 at hq
  refine J_iload_n (pc := 2) X (j := 3) (i := 3) rfl rfl dX13_find_2 ?_
  refine J_iload_n (pc := 3) X (j := 2) (i := 2) rfl rfl dX13_find_3 ?_
  refine J_icmp_ge (pc := 4) (tgt := 31) X dX13_find_4 rfl (fun c1 => ?_) (fun c1 => ?_)
  · have hq := ite_t hq c1
    refine J_sub [] rfl ?_
    exact hk31 _ _ hq
  · have hq := ite_f hq c1
    refine J_aload_n (pc := 7) X (j := 0) (i := 0) rfl rfl dX13_find_7 ?_
    refine J_getF (pc := 8) X (b := 159) ly155 fl_13_40 rfl dX13_find_8 ?_
    refine J_iload_n (pc := 11) X (j := 1) (i := 1) rfl rfl dX13_find_11 ?_
    refine J_iload_n (pc := 12) X (j := 3) (i := 3) rfl rfl dX13_find_12 ?_
    refine J_iadd (pc := 13) X dX13_find_13 ?_
    obtain ⟨g2, hq⟩ := gd hq
    refine J_laload (pc := 14) X ly159 g2 dX13_find_14 ?_
    refine J_aload_n (pc := 15) X (j := 0) (i := 0) rfl rfl dX13_find_15 ?_
    refine J_getL (pc := 16) X ly155 fl_13_185 dX13_find_16 ?_
    refine J_lcmp (pc := 19) X dX13_find_19 ?_
    refine J_if_ne (pc := 20) (tgt := 25) X dX13_find_20 rfl (fun c3 => ?_) (fun c3 => ?_)
    · have hq := ite_f hq c3
      refine J_iinc (pc := 25) X (j := 3) (v := 1) (L' := [(3, .inl (x3 + 1)), (0, .inr (.inr 155)), (1, .inl x1), (2, .inl x2)]) rfl (by decide) (by decide) rfl dX13_find_25 ?_
      refine J_goto (pc := 28) X (tgt := 2) dX13_find_28 rfl ?_
      refine J_sub [1, 2, 3, 0] rfl ?_
      exact hself _ _ _ hq
    · have hq := ite_t hq c3
      refine J_sub [3] rfl ?_
      exact hk23 _ _ _ hq
theorem tL_X13_find_2 {κ : Kx} (X : OK κ cX13_find 4 (some .int) "StruckWordsModel" 1) (x1 : Int32) (x2 : Int32) (k23 : Int32 → Hp → Option (Int32 × Hp)) (k31 : Hp → Option (Int32 × Hp)) (N : Nat) (x3 : Int32) (h : Hp) (q : (Int32 × Hp)) (hk23 : ∀ (x3 : Int32) (h : Hp) (q : (Int32 × Hp)), k23 x3 h = some q → J κ 23 [(3, .inl x3)] [] h (some (.inl q.1), q.2)) (hk31 : ∀ (h : Hp) (q : (Int32 × Hp)), k31 h = some q → J κ 31 [] [] h (some (.inl q.1), q.2)) (hq : itr2 (F_X13_find_2 x1 x2 k23 k31) N x3 h = some q) : J κ 2 [(0, .inr (.inr 155)), (1, .inl x1), (2, .inl x2), (3, .inl x3)] [] h (some (.inl q.1), q.2) :=
  itr2_ind (fun self hs x3 h q hq => tF_X13_find_2 X x1 x2 k23 k31 self x3 h q hk23 hk31 hs hq) N x3 h q hq
theorem tf_X13_find {κ : Kx} (X : OK κ cX13_find 4 (some .int) "StruckWordsModel" 1) (x1 : Int32) (x2 : Int32) (h : Hp) (q : (Int32 × Hp)) (hq : f_X13_find x1 x2 h = some q) : J κ 0 [(0, .inr (.inr 155)), (1, .inl x1), (2, .inl x2)] [] h (some (.inl q.1), q.2) := by
  delta f_X13_find at hq
  refine J_iconst (pc := 0) X (v := 0) (by decide) dX13_find_0 ?_
  refine J_istore_n (pc := 1) X (L' := [(3, .inl 0), (0, .inr (.inr 155)), (1, .inl x1), (2, .inl x2)]) (i := 3) rfl (by decide) rfl dX13_find_1 ?_
  refine J_sub [1, 2, 3, 0] rfl ?_
  refine tL_X13_find_2 X _ _ _ _ N0 _ _ _ ?_ ?_ hq
  · intro v5 h4 q hq
    refine J_iload_n (pc := 23) X (j := 0) (i := 3) rfl rfl dX13_find_23 ?_
    obtain rfl := Option.some.inj hq
    exact J_iret (pc := 24) X dX13_find_24
  · intro h6 q hq
    refine J_iconst (pc := 31) X (v := (-1)) (by decide) dX13_find_31 ?_
    obtain rfl := Option.some.inj hq
    exact J_iret (pc := 32) X dX13_find_32
theorem m_X13_find (x1 : Int32) (x2 : Int32) (h : Hp) (q : (Int32 × Hp)) (hq : f_X13_find x1 x2 h = some q) : ∀ l w, CT l w yX13_find cX13_find 4 (some .int) 1 [.inr (.inr 155), .inl x1, .inl x2] h (some (.inl q.1), q.2) :=
  CT_of (L0 := [(0, .inr (.inr 155)), (1, .inl x1), (2, .inl x2)]) (by decide) rfl (Nat.le_of_ble_eq_true rfl) (fun κ X => tf_X13_find X x1 x2 h q  hq)
theorem tf_X13_takesName {κ : Kx} (X : OK κ cX13_takesName 3 (some .boolean) "StruckWordsModel" 3) (x1 : Int32) (x2 : Int32) (h : Hp) (q : (Int32 × Hp)) (hq : f_X13_takesName x1 x2 h = some q) : J κ 0 [(0, .inr (.inr 155)), (1, .inl x1), (2, .inl x2)] [] h (some (.inl q.1), q.2) := by
  delta f_X13_takesName at hq
  refine J_aload_n (pc := 0) X (j := 0) (i := 0) rfl rfl dX13_takesName_0 ?_
  obtain ⟨v2, h1, hc, hq⟩ := bnd_e hq
  refine J_callV (pc := 1) (as := []) (st := []) (st2 := [.inl v2]) (r1 := (some (.inl v2), h1)) (h2 := h1) (ky := 1) X dX13_takesName_1 ca_X13_isName ci_X13_isName cs_X13_isName ml_13_211 (by decide) ly155 rfl rfl (m_X13_isName _ _ hc) rfl rfl (Nat.le_of_ble_eq_true rfl) rfl rfl ?_
  refine J_if_ne (pc := 4) (tgt := 13) X dX13_takesName_4 rfl (fun c3 => ?_) (fun c3 => ?_)
  · have hq := ite_f hq c3
    refine J_aload_n (pc := 13) X (j := 0) (i := 0) rfl rfl dX13_takesName_13 ?_
    refine J_aload_n (pc := 14) X (j := 0) (i := 0) rfl rfl dX13_takesName_14 ?_
    refine J_iload_n (pc := 15) X (j := 1) (i := 1) rfl rfl dX13_takesName_15 ?_
    refine J_iload_n (pc := 16) X (j := 2) (i := 2) rfl rfl dX13_takesName_16 ?_
    obtain ⟨v5, h4, hc, hq⟩ := bnd_e hq
    refine J_callV (pc := 17) (as := [.inl x1, .inl x2]) (st := [.inr (.inr 155)]) (st2 := [.inl v5, .inr (.inr 155)]) (r1 := (some (.inl v5), h4)) (h2 := h4) (ky := 1) X dX13_takesName_17 ca_X13_find ci_X13_find cs_X13_find ml_13_215 (by decide) ly155 rfl rfl (m_X13_find _ _ _ _ hc) rfl rfl (Nat.le_of_ble_eq_true rfl) rfl rfl ?_
    refine J_putI (pc := 20) X ly155 fp_13_208 dX13_takesName_20 ?_
    refine J_ltH hq (fun h6 hq => ?_)
    refine J_aload_n (pc := 23) X (j := 0) (i := 0) rfl rfl dX13_takesName_23 ?_
    refine J_getI (pc := 24) X ly155 fl_13_208 dX13_takesName_24 ?_
    refine J_if_ge (pc := 27) (tgt := 36) X dX13_takesName_27 rfl (fun c7 => ?_) (fun c7 => ?_)
    · have hq := ite_t hq c7
      refine J_aload_n (pc := 36) X (j := 0) (i := 0) rfl rfl dX13_takesName_36 ?_
      obtain ⟨h8, hc, hq⟩ := bnv_e hq
      refine J_callV (pc := 37) (as := []) (st := []) (st2 := []) (r1 := (none, h8)) (h2 := h8) (ky := 2) X dX13_takesName_37 ca_X13_next ci_X13_next cs_X13_next ml_13_201 (by decide) ly155 rfl rfl (m_X13_next _ _ hc) rfl rfl (Nat.le_of_ble_eq_true rfl) rfl rfl ?_
      refine J_iconst (pc := 40) X (v := 1) (by decide) dX13_takesName_40 ?_
      obtain rfl := Option.some.inj hq
      exact J_zret (pc := 41) X (by decide) dX13_takesName_41
    · have hq := ite_f hq c7
      refine J_aload_n (pc := 30) X (j := 0) (i := 0) rfl rfl dX13_takesName_30 ?_
      refine J_iconst (pc := 31) X (v := 3) (by decide) dX13_takesName_31 ?_
      obtain ⟨v10, h9, hc, hq⟩ := bnd_e hq
      refine J_callV (pc := 32) (as := [.inl 3]) (st := []) (st2 := [.inl v10]) (r1 := (some (.inl v10), h9)) (h2 := h9) (ky := 1) X dX13_takesName_32 ca_X13_bad ci_X13_bad cs_X13_bad ml_13_198 (by decide) ly155 rfl rfl (m_X13_bad _ _ _ hc) rfl rfl (Nat.le_of_ble_eq_true rfl) rfl rfl ?_
      obtain ⟨g11, hq⟩ := gd hq
      obtain rfl := Option.some.inj hq
      exact J_zret (pc := 35) X g11 dX13_takesName_35
  · have hq := ite_t hq c3
    refine J_aload_n (pc := 7) X (j := 0) (i := 0) rfl rfl dX13_takesName_7 ?_
    refine J_iconst (pc := 8) X (v := 1) (by decide) dX13_takesName_8 ?_
    obtain ⟨v13, h12, hc, hq⟩ := bnd_e hq
    refine J_callV (pc := 9) (as := [.inl 1]) (st := []) (st2 := [.inl v13]) (r1 := (some (.inl v13), h12)) (h2 := h12) (ky := 1) X dX13_takesName_9 ca_X13_bad ci_X13_bad cs_X13_bad ml_13_198 (by decide) ly155 rfl rfl (m_X13_bad _ _ _ hc) rfl rfl (Nat.le_of_ble_eq_true rfl) rfl rfl ?_
    obtain ⟨g14, hq⟩ := gd hq
    obtain rfl := Option.some.inj hq
    exact J_zret (pc := 12) X g14 dX13_takesName_12
theorem m_X13_takesName (x1 : Int32) (x2 : Int32) (h : Hp) (q : (Int32 × Hp)) (hq : f_X13_takesName x1 x2 h = some q) : ∀ l w, CT l w yX13_takesName cX13_takesName 3 (some .boolean) 3 [.inr (.inr 155), .inl x1, .inl x2] h (some (.inl q.1), q.2) :=
  CT_of (L0 := [(0, .inr (.inr 155)), (1, .inl x1), (2, .inl x2)]) (by decide) rfl (Nat.le_of_ble_eq_true rfl) (fun κ X => tf_X13_takesName X x1 x2 h q  hq)
theorem tB_X13_fresh_58 {κ : Kx} (X : OK κ cX13_fresh 2 (some .boolean) "StruckWordsModel" 3) (h : Hp) (q : (Int32 × Hp)) (hq : B_X13_fresh_58 h = some q) : J κ 58 [(0, .inr (.inr 155))] [] h (some (.inl q.1), q.2) := by
  delta B_X13_fresh_58 at hq
  refine J_aload_n (pc := 58) X (j := 0) (i := 0) rfl rfl dX13_fresh_58 ?_
  refine J_iconst (pc := 59) X (v := 3) (by decide) dX13_fresh_59 ?_
  obtain ⟨v8, h7, hc, hq⟩ := bnd_e hq
  refine J_callV (pc := 60) (as := [.inl 3]) (st := []) (st2 := [.inl v8]) (r1 := (some (.inl v8), h7)) (h2 := h7) (ky := 1) X dX13_fresh_60 ca_X13_bad ci_X13_bad cs_X13_bad ml_13_198 (by decide) ly155 rfl rfl (m_X13_bad _ _ _ hc) rfl rfl (Nat.le_of_ble_eq_true rfl) rfl rfl ?_
  obtain ⟨g9, hq⟩ := gd hq
  obtain rfl := Option.some.inj hq
  exact J_zret (pc := 63) X g9 dX13_fresh_63
theorem tf_X13_fresh {κ : Kx} (X : OK κ cX13_fresh 2 (some .boolean) "StruckWordsModel" 3) (x1 : Int32) (h : Hp) (q : (Int32 × Hp)) (hq : f_X13_fresh x1 h = some q) : J κ 0 [(0, .inr (.inr 155)), (1, .inl x1)] [] h (some (.inl q.1), q.2) := by
  delta f_X13_fresh at hq
  refine J_aload_n (pc := 0) X (j := 0) (i := 0) rfl rfl dX13_fresh_0 ?_
  obtain ⟨v2, h1, hc, hq⟩ := bnd_e hq
  refine J_callV (pc := 1) (as := []) (st := []) (st2 := [.inl v2]) (r1 := (some (.inl v2), h1)) (h2 := h1) (ky := 1) X dX13_fresh_1 ca_X13_isName ci_X13_isName cs_X13_isName ml_13_211 (by decide) ly155 rfl rfl (m_X13_isName _ _ hc) rfl rfl (Nat.le_of_ble_eq_true rfl) rfl rfl ?_
  refine J_if_ne (pc := 4) (tgt := 13) X dX13_fresh_4 rfl (fun c3 => ?_) (fun c3 => ?_)
  · have hq := ite_f hq c3
    refine J_aload_n (pc := 13) X (j := 0) (i := 0) rfl rfl dX13_fresh_13 ?_
    refine J_bipush (pc := 14) X (v := 16) (by decide) dX13_fresh_14 ?_
    refine J_aload_n (pc := 16) X (j := 0) (i := 0) rfl rfl dX13_fresh_16 ?_
    refine J_getF (pc := 17) X (b := 158) ly155 fl_13_37 rfl dX13_fresh_17 ?_
    refine J_iconst (pc := 20) X (v := 0) (by decide) dX13_fresh_20 ?_
    refine J_iaload (pc := 21) X ly158 (by decide) dX13_fresh_21 ?_
    obtain ⟨v5, h4, hc, hq⟩ := bnd_e hq
    refine J_callV (pc := 22) (as := [.inl 16, .inl (h1.1 158 ((0 : Int32).toNatClampNeg))]) (st := []) (st2 := [.inl v5]) (r1 := (some (.inl v5), h4)) (h2 := h4) (ky := 1) X dX13_fresh_22 ca_X13_find ci_X13_find cs_X13_find ml_13_215 (by decide) ly155 rfl rfl (m_X13_find _ _ _ _ hc) rfl rfl (Nat.le_of_ble_eq_true rfl) rfl rfl ?_
    refine J_if_ge (pc := 25) (tgt := 58) X dX13_fresh_25 rfl (fun c6 => ?_) (fun c6 => ?_)
    · have hq := ite_t hq c6
      refine J_sub [0] rfl ?_
      exact tB_X13_fresh_58 X _ _ hq
    · have hq := ite_f hq c6
      refine J_aload_n (pc := 28) X (j := 0) (i := 0) rfl rfl dX13_fresh_28 ?_
      refine J_bipush (pc := 29) X (v := 21) (by decide) dX13_fresh_29 ?_
      refine J_aload_n (pc := 31) X (j := 0) (i := 0) rfl rfl dX13_fresh_31 ?_
      refine J_getF (pc := 32) X (b := 158) ly155 fl_13_37 rfl dX13_fresh_32 ?_
      refine J_iconst (pc := 35) X (v := 1) (by decide) dX13_fresh_35 ?_
      refine J_iaload (pc := 36) X ly158 (by decide) dX13_fresh_36 ?_
      obtain ⟨v11, h10, hc, hq⟩ := bnd_e hq
      refine J_callV (pc := 37) (as := [.inl 21, .inl (h4.1 158 ((1 : Int32).toNatClampNeg))]) (st := []) (st2 := [.inl v11]) (r1 := (some (.inl v11), h10)) (h2 := h10) (ky := 1) X dX13_fresh_37 ca_X13_find ci_X13_find cs_X13_find ml_13_215 (by decide) ly155 rfl rfl (m_X13_find _ _ _ _ hc) rfl rfl (Nat.le_of_ble_eq_true rfl) rfl rfl ?_
      refine J_if_ge (pc := 40) (tgt := 58) X dX13_fresh_40 rfl (fun c12 => ?_) (fun c12 => ?_)
      · have hq := ite_t hq c12
        refine J_sub [0] rfl ?_
        exact tB_X13_fresh_58 X _ _ hq
      · have hq := ite_f hq c12
        refine J_aload_n (pc := 43) X (j := 0) (i := 0) rfl rfl dX13_fresh_43 ?_
        refine J_bipush (pc := 44) X (v := 24) (by decide) dX13_fresh_44 ?_
        refine J_aload_n (pc := 46) X (j := 0) (i := 0) rfl rfl dX13_fresh_46 ?_
        refine J_getF (pc := 47) X (b := 158) ly155 fl_13_37 rfl dX13_fresh_47 ?_
        refine J_iconst (pc := 50) X (v := 2) (by decide) dX13_fresh_50 ?_
        refine J_iaload (pc := 51) X ly158 (by decide) dX13_fresh_51 ?_
        obtain ⟨v14, h13, hc, hq⟩ := bnd_e hq
        refine J_callV (pc := 52) (as := [.inl 24, .inl (h10.1 158 ((2 : Int32).toNatClampNeg))]) (st := []) (st2 := [.inl v14]) (r1 := (some (.inl v14), h13)) (h2 := h13) (ky := 1) X dX13_fresh_52 ca_X13_find ci_X13_find cs_X13_find ml_13_215 (by decide) ly155 rfl rfl (m_X13_find _ _ _ _ hc) rfl rfl (Nat.le_of_ble_eq_true rfl) rfl rfl ?_
        refine J_if_lt (pc := 55) (tgt := 64) X dX13_fresh_55 rfl (fun c15 => ?_) (fun c15 => ?_)
        · have hq := ite_t hq c15
          refine J_aload_n (pc := 64) X (j := 0) (i := 0) rfl rfl dX13_fresh_64 ?_
          refine J_getF (pc := 65) X (b := 159) ly155 fl_13_40 rfl dX13_fresh_65 ?_
          refine J_iload_n (pc := 68) X (j := 1) (i := 1) rfl rfl dX13_fresh_68 ?_
          refine J_aload_n (pc := 69) X (j := 0) (i := 0) rfl rfl dX13_fresh_69 ?_
          refine J_getL (pc := 70) X ly155 fl_13_185 dX13_fresh_70 ?_
          obtain ⟨g16, hq⟩ := gd hq
          refine J_lastore (pc := 73) X ly159 g16 dX13_fresh_73 ?_
          refine J_ltH hq (fun h17 hq => ?_)
          refine J_aload_n (pc := 74) X (j := 0) (i := 0) rfl rfl dX13_fresh_74 ?_
          obtain ⟨h18, hc, hq⟩ := bnv_e hq
          refine J_callV (pc := 75) (as := []) (st := []) (st2 := []) (r1 := (none, h18)) (h2 := h18) (ky := 2) X dX13_fresh_75 ca_X13_next ci_X13_next cs_X13_next ml_13_201 (by decide) ly155 rfl rfl (m_X13_next _ _ hc) rfl rfl (Nat.le_of_ble_eq_true rfl) rfl rfl ?_
          refine J_iconst (pc := 78) X (v := 1) (by decide) dX13_fresh_78 ?_
          obtain rfl := Option.some.inj hq
          exact J_zret (pc := 79) X (by decide) dX13_fresh_79
        · have hq := ite_f hq c15
          refine J_sub [0] rfl ?_
          exact tB_X13_fresh_58 X _ _ hq
  · have hq := ite_t hq c3
    refine J_aload_n (pc := 7) X (j := 0) (i := 0) rfl rfl dX13_fresh_7 ?_
    refine J_iconst (pc := 8) X (v := 1) (by decide) dX13_fresh_8 ?_
    obtain ⟨v20, h19, hc, hq⟩ := bnd_e hq
    refine J_callV (pc := 9) (as := [.inl 1]) (st := []) (st2 := [.inl v20]) (r1 := (some (.inl v20), h19)) (h2 := h19) (ky := 1) X dX13_fresh_9 ca_X13_bad ci_X13_bad cs_X13_bad ml_13_198 (by decide) ly155 rfl rfl (m_X13_bad _ _ _ hc) rfl rfl (Nat.le_of_ble_eq_true rfl) rfl rfl ?_
    obtain ⟨g21, hq⟩ := gd hq
    obtain rfl := Option.some.inj hq
    exact J_zret (pc := 12) X g21 dX13_fresh_12
theorem m_X13_fresh (x1 : Int32) (h : Hp) (q : (Int32 × Hp)) (hq : f_X13_fresh x1 h = some q) : ∀ l w, CT l w yX13_fresh cX13_fresh 2 (some .boolean) 3 [.inr (.inr 155), .inl x1] h (some (.inl q.1), q.2) :=
  CT_of (L0 := [(0, .inr (.inr 155)), (1, .inl x1)]) (by decide) rfl (Nat.le_of_ble_eq_true rfl) (fun κ X => tf_X13_fresh X x1 h q  hq)
theorem tf_X13_readClerk {κ : Kx} (X : OK κ cX13_readClerk 2 (some .boolean) "StruckWordsModel" 4) (h : Hp) (q : (Int32 × Hp)) (hq : f_X13_readClerk h = some q) : J κ 0 [(0, .inr (.inr 155))] [] h (some (.inl q.1), q.2) := by
  delta f_X13_readClerk at hq
  refine J_aload_n (pc := 0) X (j := 0) (i := 0) rfl rfl dX13_readClerk_0 ?_
  obtain ⟨h1, hc, hq⟩ := bnv_e hq
  refine J_callV (pc := 1) (as := []) (st := []) (st2 := []) (r1 := (none, h1)) (h2 := h1) (ky := 2) X dX13_readClerk_1 ca_X13_next ci_X13_next cs_X13_next ml_13_201 (by decide) ly155 rfl rfl (m_X13_next _ _ hc) rfl rfl (Nat.le_of_ble_eq_true rfl) rfl rfl ?_
  refine J_aload_n (pc := 4) X (j := 0) (i := 0) rfl rfl dX13_readClerk_4 ?_
  refine J_getI (pc := 5) X ly155 fl_13_172 dX13_readClerk_5 ?_
  refine J_iconst (pc := 8) X (v := 2) (by decide) dX13_readClerk_8 ?_
  refine J_icmp_eq (pc := 9) (tgt := 18) X dX13_readClerk_9 rfl (fun c2 => ?_) (fun c2 => ?_)
  · have hq := ite_t hq c2
    refine J_aload_n (pc := 18) X (j := 0) (i := 0) rfl rfl dX13_readClerk_18 ?_
    refine J_getI (pc := 19) X ly155 fl_13_182 dX13_readClerk_19 ?_
    refine J_iconst (pc := 22) X (v := 1) (by decide) dX13_readClerk_22 ?_
    refine J_aload_n (pc := 23) X (j := 0) (i := 0) rfl rfl dX13_readClerk_23 ?_
    refine J_getF (pc := 24) X (b := 158) ly155 fl_13_37 rfl dX13_readClerk_24 ?_
    refine J_iconst (pc := 27) X (v := 3) (by decide) dX13_readClerk_27 ?_
    refine J_iaload (pc := 28) X ly158 (by decide) dX13_readClerk_28 ?_
    obtain ⟨v4, h3, hc, hq⟩ := bnd_e hq
    refine J_callS (pc := 29) (as := [.inl (h1.1 155 13), .inl 1, .inl (h1.1 158 ((3 : Int32).toNatClampNeg))]) (st := []) (st2 := [.inl v4]) (r1 := (some (.inl v4), h3)) (h2 := h3) (ky := 1) X dX13_readClerk_29 ca_X13_isIn cz_X13_isIn ml_13_204 (by decide) (m_X13_isIn _ _ _ _ _ hc) rfl rfl (Nat.le_of_ble_eq_true rfl) rfl rfl ?_
    refine J_if_ne (pc := 32) (tgt := 41) X dX13_readClerk_32 rfl (fun c5 => ?_) (fun c5 => ?_)
    · have hq := ite_f hq c5
      refine J_aload_n (pc := 41) X (j := 0) (i := 0) rfl rfl dX13_readClerk_41 ?_
      refine J_getI (pc := 42) X ly155 fl_13_254 dX13_readClerk_42 ?_
      refine J_aload_n (pc := 45) X (j := 0) (i := 0) rfl rfl dX13_readClerk_45 ?_
      refine J_getI (pc := 46) X ly155 fl_13_182 dX13_readClerk_46 ?_
      obtain ⟨v7, h6, hc, hq⟩ := bnd_e hq
      refine J_callS (pc := 49) (as := [.inl (h3.1 155 19), .inl (h3.1 155 13)]) (st := []) (st2 := [.inl v7]) (r1 := (some (.inl v7), h6)) (h2 := h6) (ky := 1) X dX13_readClerk_49 ca_X13_has cz_X13_has ml_13_257 (by decide) (m_X13_has _ _ _ _ hc) rfl rfl (Nat.le_of_ble_eq_true rfl) rfl rfl ?_
      refine J_if_eq (pc := 52) (tgt := 61) X dX13_readClerk_52 rfl (fun c8 => ?_) (fun c8 => ?_)
      · have hq := ite_t hq c8
        refine J_aload_n (pc := 61) X (j := 0) (i := 0) rfl rfl dX13_readClerk_61 ?_
        refine J_dup (pc := 62) X rfl dX13_readClerk_62 ?_
        refine J_getI (pc := 63) X ly155 fl_13_254 dX13_readClerk_63 ?_
        refine J_iconst (pc := 66) X (v := 1) (by decide) dX13_readClerk_66 ?_
        refine J_aload_n (pc := 67) X (j := 0) (i := 0) rfl rfl dX13_readClerk_67 ?_
        refine J_getI (pc := 68) X ly155 fl_13_182 dX13_readClerk_68 ?_
        refine J_ishl (pc := 71) X dX13_readClerk_71 ?_
        refine J_ior (pc := 72) X dX13_readClerk_72 ?_
        refine J_putI (pc := 73) X ly155 fp_13_254 dX13_readClerk_73 ?_
        refine J_ltH hq (fun h9 hq => ?_)
        refine J_sipush (pc := 76) X (v := 432) (by decide) dX13_readClerk_76 ?_
        refine J_aload_n (pc := 79) X (j := 0) (i := 0) rfl rfl dX13_readClerk_79 ?_
        refine J_getI (pc := 80) X ly155 fl_13_182 dX13_readClerk_80 ?_
        refine J_iadd (pc := 83) X dX13_readClerk_83 ?_
        refine J_iconst (pc := 84) X (v := 1) (by decide) dX13_readClerk_84 ?_
        refine J_isub (pc := 85) X dX13_readClerk_85 ?_
        refine J_ltI hq (fun v10 hq => ?_)
        refine J_istore_n (pc := 86) X (L' := [(1, .inl v10), (0, .inr (.inr 155))]) (i := 1) rfl (by decide) rfl dX13_readClerk_86 ?_
        refine J_aload_n (pc := 87) X (j := 1) (i := 0) rfl rfl dX13_readClerk_87 ?_
        obtain ⟨h11, hc, hq⟩ := bnv_e hq
        refine J_callV (pc := 88) (as := []) (st := []) (st2 := []) (r1 := (none, h11)) (h2 := h11) (ky := 2) X dX13_readClerk_88 ca_X13_next ci_X13_next cs_X13_next ml_13_201 (by decide) ly155 rfl rfl (m_X13_next _ _ hc) rfl rfl (Nat.le_of_ble_eq_true rfl) rfl rfl ?_
        refine J_aload_n (pc := 91) X (j := 1) (i := 0) rfl rfl dX13_readClerk_91 ?_
        refine J_iconst (pc := 92) X (v := 0) (by decide) dX13_readClerk_92 ?_
        refine J_bipush (pc := 93) X (v := 9) (by decide) dX13_readClerk_93 ?_
        obtain ⟨v13, h12, hc, hq⟩ := bnd_e hq
        refine J_callV (pc := 95) (as := [.inl 0, .inl 9]) (st := []) (st2 := [.inl v13]) (r1 := (some (.inl v13), h12)) (h2 := h12) (ky := 3) X dX13_readClerk_95 ca_X13_takes ci_X13_takes cs_X13_takes ml_13_248 (by decide) ly155 rfl rfl (m_X13_takes _ _ _ _ hc) rfl rfl (Nat.le_of_ble_eq_true rfl) rfl rfl ?_
        refine J_if_ne (pc := 98) (tgt := 103) X dX13_readClerk_98 rfl (fun c14 => ?_) (fun c14 => ?_)
        · have hq := ite_f hq c14
          refine J_aload_n (pc := 103) X (j := 1) (i := 0) rfl rfl dX13_readClerk_103 ?_
          refine J_getF (pc := 104) X (b := 158) ly155 fl_13_37 rfl dX13_readClerk_104 ?_
          refine J_iload_n (pc := 107) X (j := 0) (i := 1) rfl rfl dX13_readClerk_107 ?_
          refine J_aload_n (pc := 108) X (j := 1) (i := 0) rfl rfl dX13_readClerk_108 ?_
          refine J_getI (pc := 109) X ly155 fl_13_208 dX13_readClerk_109 ?_
          obtain ⟨g15, hq⟩ := gd hq
          refine J_iastore (pc := 112) X ly158 g15 dX13_readClerk_112 ?_
          refine J_ltH hq (fun h16 hq => ?_)
          refine J_iconst (pc := 113) X (v := 1) (by decide) dX13_readClerk_113 ?_
          obtain rfl := Option.some.inj hq
          exact J_zret (pc := 114) X (by decide) dX13_readClerk_114
        · have hq := ite_t hq c14
          refine J_iconst (pc := 101) X (v := 0) (by decide) dX13_readClerk_101 ?_
          obtain rfl := Option.some.inj hq
          exact J_zret (pc := 102) X (by decide) dX13_readClerk_102
      · have hq := ite_f hq c8
        refine J_aload_n (pc := 55) X (j := 0) (i := 0) rfl rfl dX13_readClerk_55 ?_
        refine J_iconst (pc := 56) X (v := 3) (by decide) dX13_readClerk_56 ?_
        obtain ⟨v18, h17, hc, hq⟩ := bnd_e hq
        refine J_callV (pc := 57) (as := [.inl 3]) (st := []) (st2 := [.inl v18]) (r1 := (some (.inl v18), h17)) (h2 := h17) (ky := 1) X dX13_readClerk_57 ca_X13_bad ci_X13_bad cs_X13_bad ml_13_198 (by decide) ly155 rfl rfl (m_X13_bad _ _ _ hc) rfl rfl (Nat.le_of_ble_eq_true rfl) rfl rfl ?_
        obtain ⟨g19, hq⟩ := gd hq
        obtain rfl := Option.some.inj hq
        exact J_zret (pc := 60) X g19 dX13_readClerk_60
    · have hq := ite_t hq c5
      refine J_aload_n (pc := 35) X (j := 0) (i := 0) rfl rfl dX13_readClerk_35 ?_
      refine J_iconst (pc := 36) X (v := 2) (by decide) dX13_readClerk_36 ?_
      obtain ⟨v21, h20, hc, hq⟩ := bnd_e hq
      refine J_callV (pc := 37) (as := [.inl 2]) (st := []) (st2 := [.inl v21]) (r1 := (some (.inl v21), h20)) (h2 := h20) (ky := 1) X dX13_readClerk_37 ca_X13_bad ci_X13_bad cs_X13_bad ml_13_198 (by decide) ly155 rfl rfl (m_X13_bad _ _ _ hc) rfl rfl (Nat.le_of_ble_eq_true rfl) rfl rfl ?_
      obtain ⟨g22, hq⟩ := gd hq
      obtain rfl := Option.some.inj hq
      exact J_zret (pc := 40) X g22 dX13_readClerk_40
  · have hq := ite_f hq c2
    refine J_aload_n (pc := 12) X (j := 0) (i := 0) rfl rfl dX13_readClerk_12 ?_
    refine J_iconst (pc := 13) X (v := 1) (by decide) dX13_readClerk_13 ?_
    obtain ⟨v24, h23, hc, hq⟩ := bnd_e hq
    refine J_callV (pc := 14) (as := [.inl 1]) (st := []) (st2 := [.inl v24]) (r1 := (some (.inl v24), h23)) (h2 := h23) (ky := 1) X dX13_readClerk_14 ca_X13_bad ci_X13_bad cs_X13_bad ml_13_198 (by decide) ly155 rfl rfl (m_X13_bad _ _ _ hc) rfl rfl (Nat.le_of_ble_eq_true rfl) rfl rfl ?_
    obtain ⟨g25, hq⟩ := gd hq
    obtain rfl := Option.some.inj hq
    exact J_zret (pc := 17) X g25 dX13_readClerk_17
theorem m_X13_readClerk (h : Hp) (q : (Int32 × Hp)) (hq : f_X13_readClerk  h = some q) : ∀ l w, CT l w yX13_readClerk cX13_readClerk 2 (some .boolean) 4 [.inr (.inr 155)] h (some (.inl q.1), q.2) :=
  CT_of (L0 := [(0, .inr (.inr 155))]) (by decide) rfl (Nat.le_of_ble_eq_true rfl) (fun κ X => tf_X13_readClerk X  h q  hq)
theorem tB_X13_readEdict_14 {κ : Kx} (X : OK κ cX13_readEdict 1 (some .boolean) "StruckWordsModel" 4) (h : Hp) (q : (Int32 × Hp)) (hq : B_X13_readEdict_14 h = some q) : J κ 14 [(0, .inr (.inr 155))] [] h (some (.inl q.1), q.2) := by
  delta B_X13_readEdict_14 at hq
  refine J_aload_n (pc := 14) X (j := 0) (i := 0) rfl rfl dX13_readEdict_14 ?_
  refine J_iconst (pc := 15) X (v := 3) (by decide) dX13_readEdict_15 ?_
  obtain ⟨v3, h2, hc, hq⟩ := bnd_e hq
  refine J_callV (pc := 16) (as := [.inl 3]) (st := []) (st2 := [.inl v3]) (r1 := (some (.inl v3), h2)) (h2 := h2) (ky := 1) X dX13_readEdict_16 ca_X13_bad ci_X13_bad cs_X13_bad ml_13_198 (by decide) ly155 rfl rfl (m_X13_bad _ _ _ hc) rfl rfl (Nat.le_of_ble_eq_true rfl) rfl rfl ?_
  obtain ⟨g4, hq⟩ := gd hq
  obtain rfl := Option.some.inj hq
  exact J_zret (pc := 19) X g4 dX13_readEdict_19
theorem tf_X13_readEdict {κ : Kx} (X : OK κ cX13_readEdict 1 (some .boolean) "StruckWordsModel" 4) (h : Hp) (q : (Int32 × Hp)) (hq : f_X13_readEdict h = some q) : J κ 0 [(0, .inr (.inr 155))] [] h (some (.inl q.1), q.2) := by
  delta f_X13_readEdict at hq
  refine J_aload_n (pc := 0) X (j := 0) (i := 0) rfl rfl dX13_readEdict_0 ?_
  refine J_getI (pc := 1) X ly155 fl_13_251 dX13_readEdict_1 ?_
  refine J_if_ne (pc := 4) (tgt := 14) X dX13_readEdict_4 rfl (fun c1 => ?_) (fun c1 => ?_)
  · have hq := ite_f hq c1
    exact tB_X13_readEdict_14 X _ _ hq
  · have hq := ite_t hq c1
    refine J_aload_n (pc := 7) X (j := 0) (i := 0) rfl rfl dX13_readEdict_7 ?_
    refine J_getI (pc := 8) X ly155 fl_13_254 dX13_readEdict_8 ?_
    refine J_if_eq (pc := 11) (tgt := 20) X dX13_readEdict_11 rfl (fun c5 => ?_) (fun c5 => ?_)
    · have hq := ite_t hq c5
      refine J_aload_n (pc := 20) X (j := 0) (i := 0) rfl rfl dX13_readEdict_20 ?_
      refine J_iconst (pc := 21) X (v := 1) (by decide) dX13_readEdict_21 ?_
      refine J_putZ (pc := 22) X ly155 fp_13_251 (by decide) dX13_readEdict_22 ?_
      refine J_ltH hq (fun h6 hq => ?_)
      refine J_aload_n (pc := 25) X (j := 0) (i := 0) rfl rfl dX13_readEdict_25 ?_
      obtain ⟨h7, hc, hq⟩ := bnv_e hq
      refine J_callV (pc := 26) (as := []) (st := []) (st2 := []) (r1 := (none, h7)) (h2 := h7) (ky := 2) X dX13_readEdict_26 ca_X13_next ci_X13_next cs_X13_next ml_13_201 (by decide) ly155 rfl rfl (m_X13_next _ _ hc) rfl rfl (Nat.le_of_ble_eq_true rfl) rfl rfl ?_
      refine J_aload_n (pc := 29) X (j := 0) (i := 0) rfl rfl dX13_readEdict_29 ?_
      refine J_iconst (pc := 30) X (v := 2) (by decide) dX13_readEdict_30 ?_
      refine J_iconst (pc := 31) X (v := 5) (by decide) dX13_readEdict_31 ?_
      obtain ⟨v9, h8, hc, hq⟩ := bnd_e hq
      refine J_callV (pc := 32) (as := [.inl 2, .inl 5]) (st := []) (st2 := [.inl v9]) (r1 := (some (.inl v9), h8)) (h2 := h8) (ky := 3) X dX13_readEdict_32 ca_X13_takes ci_X13_takes cs_X13_takes ml_13_248 (by decide) ly155 rfl rfl (m_X13_takes _ _ _ _ hc) rfl rfl (Nat.le_of_ble_eq_true rfl) rfl rfl ?_
      refine J_if_ne (pc := 35) (tgt := 40) X dX13_readEdict_35 rfl (fun c10 => ?_) (fun c10 => ?_)
      · have hq := ite_f hq c10
        refine J_aload_n (pc := 40) X (j := 0) (i := 0) rfl rfl dX13_readEdict_40 ?_
        refine J_getF (pc := 41) X (b := 158) ly155 fl_13_37 rfl dX13_readEdict_41 ?_
        refine J_iconst (pc := 44) X (v := 3) (by decide) dX13_readEdict_44 ?_
        refine J_aload_n (pc := 45) X (j := 0) (i := 0) rfl rfl dX13_readEdict_45 ?_
        refine J_getI (pc := 46) X ly155 fl_13_208 dX13_readEdict_46 ?_
        refine J_iastore (pc := 49) X ly158 (by decide) dX13_readEdict_49 ?_
        refine J_ltH hq (fun h11 hq => ?_)
        refine J_aload_n (pc := 50) X (j := 0) (i := 0) rfl rfl dX13_readEdict_50 ?_
        refine J_iconst (pc := 51) X (v := 1) (by decide) dX13_readEdict_51 ?_
        refine J_aload_n (pc := 52) X (j := 0) (i := 0) rfl rfl dX13_readEdict_52 ?_
        refine J_getI (pc := 53) X ly155 fl_13_208 dX13_readEdict_53 ?_
        refine J_iconst (pc := 56) X (v := 1) (by decide) dX13_readEdict_56 ?_
        refine J_isub (pc := 57) X dX13_readEdict_57 ?_
        obtain ⟨v13, h12, hc, hq⟩ := bnd_e hq
        refine J_callV (pc := 58) (as := [.inl 1, .inl ((h11.1 155 17) - 1)]) (st := []) (st2 := [.inl v13]) (r1 := (some (.inl v13), h12)) (h2 := h12) (ky := 3) X dX13_readEdict_58 ca_X13_takes ci_X13_takes cs_X13_takes ml_13_248 (by decide) ly155 rfl rfl (m_X13_takes _ _ _ _ hc) rfl rfl (Nat.le_of_ble_eq_true rfl) rfl rfl ?_
        refine J_if_ne (pc := 61) (tgt := 66) X dX13_readEdict_61 rfl (fun c14 => ?_) (fun c14 => ?_)
        · have hq := ite_f hq c14
          refine J_aload_n (pc := 66) X (j := 0) (i := 0) rfl rfl dX13_readEdict_66 ?_
          refine J_getF (pc := 67) X (b := 158) ly155 fl_13_37 rfl dX13_readEdict_67 ?_
          refine J_iconst (pc := 70) X (v := 4) (by decide) dX13_readEdict_70 ?_
          refine J_aload_n (pc := 71) X (j := 0) (i := 0) rfl rfl dX13_readEdict_71 ?_
          refine J_getI (pc := 72) X ly155 fl_13_208 dX13_readEdict_72 ?_
          refine J_iastore (pc := 75) X ly158 (by decide) dX13_readEdict_75 ?_
          refine J_ltH hq (fun h15 hq => ?_)
          refine J_iconst (pc := 76) X (v := 1) (by decide) dX13_readEdict_76 ?_
          obtain rfl := Option.some.inj hq
          exact J_zret (pc := 77) X (by decide) dX13_readEdict_77
        · have hq := ite_t hq c14
          refine J_iconst (pc := 64) X (v := 0) (by decide) dX13_readEdict_64 ?_
          obtain rfl := Option.some.inj hq
          exact J_zret (pc := 65) X (by decide) dX13_readEdict_65
      · have hq := ite_t hq c10
        refine J_iconst (pc := 38) X (v := 0) (by decide) dX13_readEdict_38 ?_
        obtain rfl := Option.some.inj hq
        exact J_zret (pc := 39) X (by decide) dX13_readEdict_39
    · have hq := ite_f hq c5
      exact tB_X13_readEdict_14 X _ _ hq
theorem m_X13_readEdict (h : Hp) (q : (Int32 × Hp)) (hq : f_X13_readEdict  h = some q) : ∀ l w, CT l w yX13_readEdict cX13_readEdict 1 (some .boolean) 4 [.inr (.inr 155)] h (some (.inl q.1), q.2) :=
  CT_of (L0 := [(0, .inr (.inr 155))]) (by decide) rfl (Nat.le_of_ble_eq_true rfl) (fun κ X => tf_X13_readEdict X  h q  hq)
theorem tB_X13_readFollow_73 {κ : Kx} (X : OK κ cX13_readFollow 3 (some .boolean) "StruckWordsModel" 4) (h : Hp) (q : (Int32 × Hp)) (hq : B_X13_readFollow_73 h = some q) : J κ 73 [(0, .inr (.inr 155))] [] h (some (.inl q.1), q.2) := by
  delta B_X13_readFollow_73 at hq
  refine J_aload_n (pc := 73) X (j := 0) (i := 0) rfl rfl dX13_readFollow_73 ?_
  refine J_iconst (pc := 74) X (v := 3) (by decide) dX13_readFollow_74 ?_
  obtain ⟨v13, h12, hc, hq⟩ := bnd_e hq
  refine J_callV (pc := 75) (as := [.inl 3]) (st := []) (st2 := [.inl v13]) (r1 := (some (.inl v13), h12)) (h2 := h12) (ky := 1) X dX13_readFollow_75 ca_X13_bad ci_X13_bad cs_X13_bad ml_13_198 (by decide) ly155 rfl rfl (m_X13_bad _ _ _ hc) rfl rfl (Nat.le_of_ble_eq_true rfl) rfl rfl ?_
  obtain ⟨g14, hq⟩ := gd hq
  obtain rfl := Option.some.inj hq
  exact J_zret (pc := 78) X g14 dX13_readFollow_78
theorem tf_X13_readFollow {κ : Kx} (X : OK κ cX13_readFollow 3 (some .boolean) "StruckWordsModel" 4) (h : Hp) (q : (Int32 × Hp)) (hq : f_X13_readFollow h = some q) : J κ 0 [(0, .inr (.inr 155))] [] h (some (.inl q.1), q.2) := by
  delta f_X13_readFollow at hq
  refine J_aload_n (pc := 0) X (j := 0) (i := 0) rfl rfl dX13_readFollow_0 ?_
  obtain ⟨h1, hc, hq⟩ := bnv_e hq
  refine J_callV (pc := 1) (as := []) (st := []) (st2 := []) (r1 := (none, h1)) (h2 := h1) (ky := 2) X dX13_readFollow_1 ca_X13_next ci_X13_next cs_X13_next ml_13_201 (by decide) ly155 rfl rfl (m_X13_next _ _ hc) rfl rfl (Nat.le_of_ble_eq_true rfl) rfl rfl ?_
  refine J_aload_n (pc := 4) X (j := 0) (i := 0) rfl rfl dX13_readFollow_4 ?_
  refine J_bipush (pc := 5) X (v := 16) (by decide) dX13_readFollow_5 ?_
  refine J_aload_n (pc := 7) X (j := 0) (i := 0) rfl rfl dX13_readFollow_7 ?_
  refine J_getF (pc := 8) X (b := 158) ly155 fl_13_37 rfl dX13_readFollow_8 ?_
  refine J_iconst (pc := 11) X (v := 0) (by decide) dX13_readFollow_11 ?_
  refine J_iaload (pc := 12) X ly158 (by decide) dX13_readFollow_12 ?_
  obtain ⟨v3, h2, hc, hq⟩ := bnd_e hq
  refine J_callV (pc := 13) (as := [.inl 16, .inl (h1.1 158 ((0 : Int32).toNatClampNeg))]) (st := []) (st2 := [.inl v3]) (r1 := (some (.inl v3), h2)) (h2 := h2) (ky := 3) X dX13_readFollow_13 ca_X13_takesName ci_X13_takesName cs_X13_takesName ml_13_244 (by decide) ly155 rfl rfl (m_X13_takesName _ _ _ _ hc) rfl rfl (Nat.le_of_ble_eq_true rfl) rfl rfl ?_
  refine J_if_ne (pc := 16) (tgt := 21) X dX13_readFollow_16 rfl (fun c4 => ?_) (fun c4 => ?_)
  · have hq := ite_f hq c4
    refine J_aload_n (pc := 21) X (j := 0) (i := 0) rfl rfl dX13_readFollow_21 ?_
    refine J_getI (pc := 22) X ly155 fl_13_208 dX13_readFollow_22 ?_
    refine J_ltI hq (fun v5 hq => ?_)
    refine J_istore_n (pc := 25) X (L' := [(1, .inl v5), (0, .inr (.inr 155))]) (i := 1) rfl (by decide) rfl dX13_readFollow_25 ?_
    refine J_aload_n (pc := 26) X (j := 1) (i := 0) rfl rfl dX13_readFollow_26 ?_
    obtain ⟨v7, h6, hc, hq⟩ := bnd_e hq
    refine J_callV (pc := 27) (as := []) (st := []) (st2 := [.inl v7]) (r1 := (some (.inl v7), h6)) (h2 := h6) (ky := 1) X dX13_readFollow_27 ca_X13_isName ci_X13_isName cs_X13_isName ml_13_211 (by decide) ly155 rfl rfl (m_X13_isName _ _ hc) rfl rfl (Nat.le_of_ble_eq_true rfl) rfl rfl ?_
    refine J_if_ne (pc := 30) (tgt := 39) X dX13_readFollow_30 rfl (fun c8 => ?_) (fun c8 => ?_)
    · have hq := ite_f hq c8
      refine J_aload_n (pc := 39) X (j := 1) (i := 0) rfl rfl dX13_readFollow_39 ?_
      refine J_bipush (pc := 40) X (v := 16) (by decide) dX13_readFollow_40 ?_
      refine J_aload_n (pc := 42) X (j := 1) (i := 0) rfl rfl dX13_readFollow_42 ?_
      refine J_getF (pc := 43) X (b := 158) ly155 fl_13_37 rfl dX13_readFollow_43 ?_
      refine J_iconst (pc := 46) X (v := 0) (by decide) dX13_readFollow_46 ?_
      refine J_iaload (pc := 47) X ly158 (by decide) dX13_readFollow_47 ?_
      obtain ⟨v10, h9, hc, hq⟩ := bnd_e hq
      refine J_callV (pc := 48) (as := [.inl 16, .inl (h6.1 158 ((0 : Int32).toNatClampNeg))]) (st := []) (st2 := [.inl v10]) (r1 := (some (.inl v10), h9)) (h2 := h9) (ky := 1) X dX13_readFollow_48 ca_X13_find ci_X13_find cs_X13_find ml_13_215 (by decide) ly155 rfl rfl (m_X13_find _ _ _ _ hc) rfl rfl (Nat.le_of_ble_eq_true rfl) rfl rfl ?_
      refine J_istore_n (pc := 51) X (L' := [(2, .inl v10), (1, .inl v5), (0, .inr (.inr 155))]) (i := 2) rfl (by decide) rfl dX13_readFollow_51 ?_
      refine J_iload_n (pc := 52) X (j := 0) (i := 2) rfl rfl dX13_readFollow_52 ?_
      refine J_if_lt (pc := 53) (tgt := 73) X dX13_readFollow_53 rfl (fun c11 => ?_) (fun c11 => ?_)
      · have hq := ite_t hq c11
        refine J_sub [2] rfl ?_
        exact tB_X13_readFollow_73 X _ _ hq
      · have hq := ite_f hq c11
        refine J_aload_n (pc := 56) X (j := 2) (i := 0) rfl rfl dX13_readFollow_56 ?_
        refine J_getF (pc := 57) X (b := 158) ly155 fl_13_37 rfl dX13_readFollow_57 ?_
        refine J_bipush (pc := 60) X (v := 15) (by decide) dX13_readFollow_60 ?_
        refine J_iconst (pc := 62) X (v := 5) (by decide) dX13_readFollow_62 ?_
        refine J_iload_n (pc := 63) X (j := 1) (i := 1) rfl rfl dX13_readFollow_63 ?_
        refine J_imul (pc := 64) X dX13_readFollow_64 ?_
        refine J_iadd (pc := 65) X dX13_readFollow_65 ?_
        refine J_iload_n (pc := 66) X (j := 0) (i := 2) rfl rfl dX13_readFollow_66 ?_
        refine J_iadd (pc := 67) X dX13_readFollow_67 ?_
        obtain ⟨g15, hq⟩ := gd hq
        refine J_iaload (pc := 68) X ly158 g15 dX13_readFollow_68 ?_
        refine J_iconst (pc := 69) X (v := 1) (by decide) dX13_readFollow_69 ?_
        refine J_icmp_ne (pc := 70) (tgt := 79) X dX13_readFollow_70 rfl (fun c16 => ?_) (fun c16 => ?_)
        · have hq := ite_f hq c16
          refine J_aload_n (pc := 79) X (j := 2) (i := 0) rfl rfl dX13_readFollow_79 ?_
          refine J_getF (pc := 80) X (b := 158) ly155 fl_13_37 rfl dX13_readFollow_80 ?_
          refine J_bipush (pc := 83) X (v := 15) (by decide) dX13_readFollow_83 ?_
          refine J_iconst (pc := 85) X (v := 5) (by decide) dX13_readFollow_85 ?_
          refine J_iload_n (pc := 86) X (j := 1) (i := 1) rfl rfl dX13_readFollow_86 ?_
          refine J_imul (pc := 87) X dX13_readFollow_87 ?_
          refine J_iadd (pc := 88) X dX13_readFollow_88 ?_
          refine J_iload_n (pc := 89) X (j := 0) (i := 2) rfl rfl dX13_readFollow_89 ?_
          refine J_iadd (pc := 90) X dX13_readFollow_90 ?_
          refine J_iconst (pc := 91) X (v := 1) (by decide) dX13_readFollow_91 ?_
          obtain ⟨g17, hq⟩ := gd hq
          refine J_iastore (pc := 92) X ly158 g17 dX13_readFollow_92 ?_
          refine J_ltH hq (fun h18 hq => ?_)
          refine J_aload_n (pc := 93) X (j := 2) (i := 0) rfl rfl dX13_readFollow_93 ?_
          obtain ⟨h19, hc, hq⟩ := bnv_e hq
          refine J_callV (pc := 94) (as := []) (st := []) (st2 := []) (r1 := (none, h19)) (h2 := h19) (ky := 2) X dX13_readFollow_94 ca_X13_next ci_X13_next cs_X13_next ml_13_201 (by decide) ly155 rfl rfl (m_X13_next _ _ hc) rfl rfl (Nat.le_of_ble_eq_true rfl) rfl rfl ?_
          refine J_iconst (pc := 97) X (v := 1) (by decide) dX13_readFollow_97 ?_
          obtain rfl := Option.some.inj hq
          exact J_zret (pc := 98) X (by decide) dX13_readFollow_98
        · have hq := ite_t hq c16
          refine J_sub [2] rfl ?_
          exact tB_X13_readFollow_73 X _ _ hq
    · have hq := ite_t hq c8
      refine J_aload_n (pc := 33) X (j := 1) (i := 0) rfl rfl dX13_readFollow_33 ?_
      refine J_iconst (pc := 34) X (v := 1) (by decide) dX13_readFollow_34 ?_
      obtain ⟨v21, h20, hc, hq⟩ := bnd_e hq
      refine J_callV (pc := 35) (as := [.inl 1]) (st := []) (st2 := [.inl v21]) (r1 := (some (.inl v21), h20)) (h2 := h20) (ky := 1) X dX13_readFollow_35 ca_X13_bad ci_X13_bad cs_X13_bad ml_13_198 (by decide) ly155 rfl rfl (m_X13_bad _ _ _ hc) rfl rfl (Nat.le_of_ble_eq_true rfl) rfl rfl ?_
      obtain ⟨g22, hq⟩ := gd hq
      obtain rfl := Option.some.inj hq
      exact J_zret (pc := 38) X g22 dX13_readFollow_38
  · have hq := ite_t hq c4
    refine J_iconst (pc := 19) X (v := 0) (by decide) dX13_readFollow_19 ?_
    obtain rfl := Option.some.inj hq
    exact J_zret (pc := 20) X (by decide) dX13_readFollow_20
theorem m_X13_readFollow (h : Hp) (q : (Int32 × Hp)) (hq : f_X13_readFollow  h = some q) : ∀ l w, CT l w yX13_readFollow cX13_readFollow 3 (some .boolean) 4 [.inr (.inr 155)] h (some (.inl q.1), q.2) :=
  CT_of (L0 := [(0, .inr (.inr 155))]) (by decide) rfl (Nat.le_of_ble_eq_true rfl) (fun κ X => tf_X13_readFollow X  h q  hq)
