theorem tF_X13_isAll_2 {κ : Kx} (X : OK κ cX13_isAll 4 (some .boolean) "StruckWordsModel" 2) (x0 : Int32) (x1 : Int32) (x2 : Int32) (k25 : Hp → Option (Int32 × Hp)) (k33 : Hp → Option (Int32 × Hp)) (self : Int32 → Hp → Option (Int32 × Hp)) (x3 : Int32) (h : Hp) (q : (Int32 × Hp)) (hk25 : ∀ (h : Hp) (q : (Int32 × Hp)), k25 h = some q → J κ 25 [] [] h (some (.inl q.1), q.2)) (hk33 : ∀ (h : Hp) (q : (Int32 × Hp)), k33 h = some q → J κ 33 [] [] h (some (.inl q.1), q.2)) (hself : ∀ (x3 : Int32) (h : Hp) (q : (Int32 × Hp)), self x3 h = some q → J κ 2 [(0, .inl x0), (1, .inl x1), (2, .inl x2), (3, .inl x3)] [] h (some (.inl q.1), q.2)) (hq : F_X13_isAll_2 x0 x1 x2 k25 k33 self x3 h = some q) : J κ 2 [(0, .inl x0), (1, .inl x1), (2, .inl x2), (3, .inl x3)] [] h (some (.inl q.1), q.2) := by
  delta F_X13_isAll_2 at hq
  refine J_iload_n (pc := 2) X (j := 3) (i := 3) rfl rfl dX13_isAll_2 ?_
  refine J_bipush (pc := 3) X (v := 8) (by decide) dX13_isAll_3 ?_
  refine J_icmp_ge (pc := 5) (tgt := 33) X dX13_isAll_5 rfl (fun c1 => ?_) (fun c1 => ?_)
  · have hq := ite_t hq c1
    refine J_sub [] rfl ?_
    exact hk33 _ _ hq
  · have hq := ite_f hq c1
    refine J_iload_n (pc := 8) X (j := 0) (i := 0) rfl rfl dX13_isAll_8 ?_
    refine J_iload_n (pc := 9) X (j := 3) (i := 3) rfl rfl dX13_isAll_9 ?_
    obtain ⟨v3, h2, hc, hq⟩ := bnd_e hq
    refine J_callS (pc := 10) (as := [.inl x0, .inl x3]) (st := []) (st2 := [.inl v3]) (r1 := (some (.inl v3), h2)) (h2 := h2) (ky := 1) X dX13_isAll_10 ca_X13_has cz_X13_has ml_13_257 (by decide) (m_X13_has _ _ _ _ hc) rfl rfl (Nat.le_of_ble_eq_true rfl) rfl rfl ?_
    refine J_if_eq (pc := 13) (tgt := 27) X dX13_isAll_13 rfl (fun c4 => ?_) (fun c4 => ?_)
    · have hq := ite_t hq c4
      refine J_iinc (pc := 27) X (j := 3) (v := 1) (L' := [(3, .inl (x3 + 1)), (0, .inl x0), (1, .inl x1), (2, .inl x2)]) rfl (by decide) (by decide) rfl dX13_isAll_27 ?_
      refine J_goto (pc := 30) X (tgt := 2) dX13_isAll_30 rfl ?_
      refine J_sub [1, 2, 3, 0] rfl ?_
      exact hself _ _ _ hq
    · have hq := ite_f hq c4
      refine J_iload_n (pc := 16) X (j := 3) (i := 3) rfl rfl dX13_isAll_16 ?_
      refine J_iload_n (pc := 17) X (j := 1) (i := 1) rfl rfl dX13_isAll_17 ?_
      obtain ⟨v6, h5, hc, hq⟩ := bnd_e hq
      refine J_callS (pc := 18) (as := [.inl x3, .inl x1]) (st := []) (st2 := [.inl v6]) (r1 := (some (.inl v6), h5)) (h2 := h5) (ky := 1) X dX13_isAll_18 ca_X13_has cz_X13_has ml_13_257 (by decide) (m_X13_has _ _ _ _ hc) rfl rfl (Nat.le_of_ble_eq_true rfl) rfl rfl ?_
      refine J_iload_n (pc := 21) X (j := 2) (i := 2) rfl rfl dX13_isAll_21 ?_
      refine J_icmp_eq (pc := 22) (tgt := 27) X dX13_isAll_22 rfl (fun c7 => ?_) (fun c7 => ?_)
      · have hq := ite_t hq c7
        refine J_iinc (pc := 27) X (j := 3) (v := 1) (L' := [(3, .inl (x3 + 1)), (0, .inl x0), (1, .inl x1), (2, .inl x2)]) rfl (by decide) (by decide) rfl dX13_isAll_27 ?_
        refine J_goto (pc := 30) X (tgt := 2) dX13_isAll_30 rfl ?_
        refine J_sub [1, 2, 3, 0] rfl ?_
        exact hself _ _ _ hq
      · have hq := ite_f hq c7
        refine J_sub [] rfl ?_
        exact hk25 _ _ hq
theorem tL_X13_isAll_2 {κ : Kx} (X : OK κ cX13_isAll 4 (some .boolean) "StruckWordsModel" 2) (x0 : Int32) (x1 : Int32) (x2 : Int32) (k25 : Hp → Option (Int32 × Hp)) (k33 : Hp → Option (Int32 × Hp)) (N : Nat) (x3 : Int32) (h : Hp) (q : (Int32 × Hp)) (hk25 : ∀ (h : Hp) (q : (Int32 × Hp)), k25 h = some q → J κ 25 [] [] h (some (.inl q.1), q.2)) (hk33 : ∀ (h : Hp) (q : (Int32 × Hp)), k33 h = some q → J κ 33 [] [] h (some (.inl q.1), q.2)) (hq : itr2 (F_X13_isAll_2 x0 x1 x2 k25 k33) N x3 h = some q) : J κ 2 [(0, .inl x0), (1, .inl x1), (2, .inl x2), (3, .inl x3)] [] h (some (.inl q.1), q.2) :=
  itr2_ind (fun self hs x3 h q hq => tF_X13_isAll_2 X x0 x1 x2 k25 k33 self x3 h q hk25 hk33 hs hq) N x3 h q hq
theorem tf_X13_isAll {κ : Kx} (X : OK κ cX13_isAll 4 (some .boolean) "StruckWordsModel" 2) (x0 : Int32) (x1 : Int32) (x2 : Int32) (h : Hp) (q : (Int32 × Hp)) (hq : f_X13_isAll x0 x1 x2 h = some q) : J κ 0 [(0, .inl x0), (1, .inl x1), (2, .inl x2)] [] h (some (.inl q.1), q.2) := by
  delta f_X13_isAll at hq
  refine J_iconst (pc := 0) X (v := 0) (by decide) dX13_isAll_0 ?_
  refine J_istore_n (pc := 1) X (L' := [(3, .inl 0), (0, .inl x0), (1, .inl x1), (2, .inl x2)]) (i := 3) rfl (by decide) rfl dX13_isAll_1 ?_
  refine J_sub [1, 2, 3, 0] rfl ?_
  refine tL_X13_isAll_2 X _ _ _ _ _ N0 _ _ _ ?_ ?_ hq
  · intro h8 q hq
    refine J_iconst (pc := 25) X (v := 0) (by decide) dX13_isAll_25 ?_
    obtain rfl := Option.some.inj hq
    exact J_zret (pc := 26) X (by decide) dX13_isAll_26
  · intro h9 q hq
    refine J_iconst (pc := 33) X (v := 1) (by decide) dX13_isAll_33 ?_
    obtain rfl := Option.some.inj hq
    exact J_zret (pc := 34) X (by decide) dX13_isAll_34
theorem m_X13_isAll (x0 : Int32) (x1 : Int32) (x2 : Int32) (h : Hp) (q : (Int32 × Hp)) (hq : f_X13_isAll x0 x1 x2 h = some q) : ∀ l w, CT l w yX13_isAll cX13_isAll 4 (some .boolean) 2 [.inl x0, .inl x1, .inl x2] h (some (.inl q.1), q.2) :=
  CT_of (L0 := [(0, .inl x0), (1, .inl x1), (2, .inl x2)]) (by decide) rfl (Nat.le_of_ble_eq_true rfl) (fun κ X => tf_X13_isAll X x0 x1 x2 h q  hq)
theorem tB_X13_against_85 {κ : Kx} (X : OK κ cX13_against 6 (some .int) "StruckWordsModel" 5) (x1 : Int32) (x2 : Int32) (k120 : Int32 → Hp → Option (Int32 × Hp)) (self : Int32 → Int32 → Hp → Option (Int32 × Hp)) (x4 : Int32) (x5 : Int32) (t0 : Int32) (h : Hp) (q : (Int32 × Hp)) (hk120 : ∀ (x3 : Int32) (h : Hp) (q : (Int32 × Hp)), k120 x3 h = some q → J κ 120 [(3, .inl x3)] [] h (some (.inl q.1), q.2)) (hself : ∀ (x3 : Int32) (x4 : Int32) (h : Hp) (q : (Int32 × Hp)), self x3 x4 h = some q → J κ 34 [(0, .inr (.inr 155)), (1, .inl x1), (2, .inl x2), (3, .inl x3), (4, .inl x4)] [] h (some (.inl q.1), q.2)) (hq : B_X13_against_85 x1 x2 k120 self x4 x5 t0 h = some q) : J κ 85 [(0, .inr (.inr 155)), (1, .inl x1), (2, .inl x2), (4, .inl x4), (5, .inl x5)] [.inl t0] h (some (.inl q.1), q.2) := by
  delta B_X13_against_85 at hq
  refine J_iload_n (pc := 85) X (j := 2) (i := 2) rfl rfl dX13_against_85 ?_
  refine J_iload_n (pc := 86) X (j := 1) (i := 1) rfl rfl dX13_against_86 ?_
  refine J_iconst (pc := 87) X (v := 0) (by decide) dX13_against_87 ?_
  obtain ⟨v16, h15, hc, hq⟩ := bnd_e hq
  refine J_callS (pc := 88) (as := [.inl x2, .inl x1, .inl 0]) (st := [.inl t0]) (st2 := [.inl v16, .inl t0]) (r1 := (some (.inl v16), h15)) (h2 := h15) (ky := 2) X dX13_against_88 ca_X13_isAll cz_X13_isAll ml_13_341 (by decide) (m_X13_isAll _ _ _ _ _ hc) rfl rfl (Nat.le_of_ble_eq_true rfl) rfl rfl ?_
  refine J_if_eq (pc := 91) (tgt := 111) X dX13_against_91 rfl (fun c17 => ?_) (fun c17 => ?_)
  · have hq := ite_t hq c17
    refine J_iconst (pc := 111) X (v := 0) (by decide) dX13_against_111 ?_
    refine J_ior (pc := 112) X dX13_against_112 ?_
    refine J_ltI hq (fun v18 hq => ?_)
    refine J_istore_n (pc := 113) X (L' := [(3, .inl v18), (0, .inr (.inr 155)), (1, .inl x1), (2, .inl x2), (4, .inl x4), (5, .inl x5)]) (i := 3) rfl (by decide) rfl dX13_against_113 ?_
    refine J_iinc (pc := 114) X (j := 4) (v := 1) (L' := [(4, .inl (x4 + 1)), (3, .inl v18), (0, .inr (.inr 155)), (1, .inl x1), (2, .inl x2), (5, .inl x5)]) rfl (by decide) (by decide) rfl dX13_against_114 ?_
    refine J_goto (pc := 117) X (tgt := 34) dX13_against_117 rfl ?_
    refine J_sub [2, 3, 4, 1, 0] rfl ?_
    exact hself _ _ _ _ hq
  · have hq := ite_f hq c17
    refine J_iload (pc := 94) X (j := 4) rfl dX13_against_94 ?_
    refine J_iload_n (pc := 96) X (j := 1) (i := 1) rfl rfl dX13_against_96 ?_
    refine J_iconst (pc := 97) X (v := 1) (by decide) dX13_against_97 ?_
    obtain ⟨v20, h19, hc, hq⟩ := bnd_e hq
    refine J_callS (pc := 98) (as := [.inl x5, .inl x1, .inl 1]) (st := [.inl t0]) (st2 := [.inl v20, .inl t0]) (r1 := (some (.inl v20), h19)) (h2 := h19) (ky := 2) X dX13_against_98 ca_X13_isAll cz_X13_isAll ml_13_341 (by decide) (m_X13_isAll _ _ _ _ _ hc) rfl rfl (Nat.le_of_ble_eq_true rfl) rfl rfl ?_
    refine J_if_eq (pc := 101) (tgt := 111) X dX13_against_101 rfl (fun c21 => ?_) (fun c21 => ?_)
    · have hq := ite_t hq c21
      refine J_iconst (pc := 111) X (v := 0) (by decide) dX13_against_111 ?_
      refine J_ior (pc := 112) X dX13_against_112 ?_
      refine J_ltI hq (fun v22 hq => ?_)
      refine J_istore_n (pc := 113) X (L' := [(3, .inl v22), (0, .inr (.inr 155)), (1, .inl x1), (2, .inl x2), (4, .inl x4), (5, .inl x5)]) (i := 3) rfl (by decide) rfl dX13_against_113 ?_
      refine J_iinc (pc := 114) X (j := 4) (v := 1) (L' := [(4, .inl (x4 + 1)), (3, .inl v22), (0, .inr (.inr 155)), (1, .inl x1), (2, .inl x2), (5, .inl x5)]) rfl (by decide) (by decide) rfl dX13_against_114 ?_
      refine J_goto (pc := 117) X (tgt := 34) dX13_against_117 rfl ?_
      refine J_sub [2, 3, 4, 1, 0] rfl ?_
      exact hself _ _ _ _ hq
    · have hq := ite_f hq c21
      refine J_iconst (pc := 104) X (v := 1) (by decide) dX13_against_104 ?_
      refine J_iload (pc := 105) X (j := 3) rfl dX13_against_105 ?_
      refine J_ishl (pc := 107) X dX13_against_107 ?_
      refine J_goto (pc := 108) X (tgt := 112) dX13_against_108 rfl ?_
      refine J_ior (pc := 112) X dX13_against_112 ?_
      refine J_ltI hq (fun v23 hq => ?_)
      refine J_istore_n (pc := 113) X (L' := [(3, .inl v23), (0, .inr (.inr 155)), (1, .inl x1), (2, .inl x2), (4, .inl x4), (5, .inl x5)]) (i := 3) rfl (by decide) rfl dX13_against_113 ?_
      refine J_iinc (pc := 114) X (j := 4) (v := 1) (L' := [(4, .inl (x4 + 1)), (3, .inl v23), (0, .inr (.inr 155)), (1, .inl x1), (2, .inl x2), (5, .inl x5)]) rfl (by decide) (by decide) rfl dX13_against_114 ?_
      refine J_goto (pc := 117) X (tgt := 34) dX13_against_117 rfl ?_
      refine J_sub [2, 3, 4, 1, 0] rfl ?_
      exact hself _ _ _ _ hq
theorem tF_X13_against_34 {κ : Kx} (X : OK κ cX13_against 6 (some .int) "StruckWordsModel" 5) (x1 : Int32) (x2 : Int32) (k120 : Int32 → Hp → Option (Int32 × Hp)) (self : Int32 → Int32 → Hp → Option (Int32 × Hp)) (x3 : Int32) (x4 : Int32) (h : Hp) (q : (Int32 × Hp)) (hk120 : ∀ (x3 : Int32) (h : Hp) (q : (Int32 × Hp)), k120 x3 h = some q → J κ 120 [(3, .inl x3)] [] h (some (.inl q.1), q.2)) (hself : ∀ (x3 : Int32) (x4 : Int32) (h : Hp) (q : (Int32 × Hp)), self x3 x4 h = some q → J κ 34 [(0, .inr (.inr 155)), (1, .inl x1), (2, .inl x2), (3, .inl x3), (4, .inl x4)] [] h (some (.inl q.1), q.2)) (hq : F_X13_against_34 x1 x2 k120 self x3 x4 h = some q) : J κ 34 [(0, .inr (.inr 155)), (1, .inl x1), (2, .inl x2), (3, .inl x3), (4, .inl x4)] [] h (some (.inl q.1), q.2) := by
  delta F_X13_against_34 at hq
  refine J_iload (pc := 34) X (j := 4) rfl dX13_against_34 ?_
  refine J_aload_n (pc := 36) X (j := 0) (i := 0) rfl rfl dX13_against_36 ?_
  refine J_getF (pc := 37) X (b := 157) ly155 fl_13_33 rfl dX13_against_37 ?_
  refine J_iconst (pc := 40) X (v := 3) (by decide) dX13_against_40 ?_
  refine J_iaload (pc := 41) X ly157 (by decide) dX13_against_41 ?_
  refine J_icmp_gt (pc := 42) (tgt := 120) X dX13_against_42 rfl (fun c7 => ?_) (fun c7 => ?_)
  · have hq := ite_t hq c7
    refine J_sub [3] rfl ?_
    exact hk120 _ _ _ hq
  · have hq := ite_f hq c7
    refine J_aload_n (pc := 45) X (j := 0) (i := 0) rfl rfl dX13_against_45 ?_
    refine J_iload (pc := 46) X (j := 4) rfl dX13_against_46 ?_
    obtain ⟨v9, h8, hc, hq⟩ := bnd_e hq
    refine J_callV (pc := 48) (as := [.inl x4]) (st := []) (st2 := [.inl v9]) (r1 := (some (.inl v9), h8)) (h2 := h8) (ky := 4) X dX13_against_48 ca_X13_textMeans ci_X13_textMeans cs_X13_textMeans ml_13_335 (by decide) ly155 rfl rfl (m_X13_textMeans _ _ _ hc) rfl rfl (Nat.le_of_ble_eq_true rfl) rfl rfl ?_
    refine J_istore (pc := 51) X (L' := [(5, .inl v9), (0, .inr (.inr 155)), (1, .inl x1), (2, .inl x2), (3, .inl x3), (4, .inl x4)]) (by decide) rfl dX13_against_51 ?_
    refine J_iload_n (pc := 53) X (j := 3) (i := 2) rfl rfl dX13_against_53 ?_
    refine J_if_eq (pc := 54) (tgt := 114) X dX13_against_54 rfl (fun c10 => ?_) (fun c10 => ?_)
    · have hq := ite_t hq c10
      refine J_iinc (pc := 114) X (j := 5) (v := 1) (L' := [(4, .inl (x4 + 1)), (5, .inl v9), (0, .inr (.inr 155)), (1, .inl x1), (2, .inl x2), (3, .inl x3)]) rfl (by decide) (by decide) rfl dX13_against_114 ?_
      refine J_goto (pc := 117) X (tgt := 34) dX13_against_117 rfl ?_
      refine J_sub [2, 3, 4, 5, 0] rfl ?_
      exact hself _ _ _ _ hq
    · have hq := ite_f hq c10
      refine J_iload (pc := 57) X (j := 0) rfl dX13_against_57 ?_
      refine J_if_ne (pc := 59) (tgt := 65) X dX13_against_59 rfl (fun c11 => ?_) (fun c11 => ?_)
      · have hq := ite_f hq c11
        refine J_iload_n (pc := 65) X (j := 4) (i := 3) rfl rfl dX13_against_65 ?_
        refine J_iload_n (pc := 66) X (j := 3) (i := 2) rfl rfl dX13_against_66 ?_
        refine J_iload_n (pc := 67) X (j := 2) (i := 1) rfl rfl dX13_against_67 ?_
        refine J_iconst (pc := 68) X (v := 1) (by decide) dX13_against_68 ?_
        obtain ⟨v13, h12, hc, hq⟩ := bnd_e hq
        refine J_callS (pc := 69) (as := [.inl x2, .inl x1, .inl 1]) (st := [.inl x3]) (st2 := [.inl v13, .inl x3]) (r1 := (some (.inl v13), h12)) (h2 := h12) (ky := 2) X dX13_against_69 ca_X13_isAll cz_X13_isAll ml_13_341 (by decide) (m_X13_isAll _ _ _ _ _ hc) rfl rfl (Nat.le_of_ble_eq_true rfl) rfl rfl ?_
        refine J_if_eq (pc := 72) (tgt := 85) X dX13_against_72 rfl (fun c14 => ?_) (fun c14 => ?_)
        · have hq := ite_t hq c14
          refine J_sub [1, 2, 3, 5, 0] rfl ?_
          exact tB_X13_against_85 X _ _ _ _ _ _ _ _ _ hk120 hself hq
        · have hq := ite_f hq c14
          refine J_iload (pc := 75) X (j := 0) rfl dX13_against_75 ?_
          refine J_iload_n (pc := 77) X (j := 2) (i := 1) rfl rfl dX13_against_77 ?_
          refine J_iconst (pc := 78) X (v := 0) (by decide) dX13_against_78 ?_
          obtain ⟨v25, h24, hc, hq⟩ := bnd_e hq
          refine J_callS (pc := 79) (as := [.inl v9, .inl x1, .inl 0]) (st := [.inl x3]) (st2 := [.inl v25, .inl x3]) (r1 := (some (.inl v25), h24)) (h2 := h24) (ky := 2) X dX13_against_79 ca_X13_isAll cz_X13_isAll ml_13_341 (by decide) (m_X13_isAll _ _ _ _ _ hc) rfl rfl (Nat.le_of_ble_eq_true rfl) rfl rfl ?_
          refine J_if_ne (pc := 82) (tgt := 104) X dX13_against_82 rfl (fun c26 => ?_) (fun c26 => ?_)
          · have hq := ite_f hq c26
            refine J_iconst (pc := 104) X (v := 1) (by decide) dX13_against_104 ?_
            refine J_iload (pc := 105) X (j := 5) rfl dX13_against_105 ?_
            refine J_ishl (pc := 107) X dX13_against_107 ?_
            refine J_goto (pc := 108) X (tgt := 112) dX13_against_108 rfl ?_
            refine J_ior (pc := 112) X dX13_against_112 ?_
            refine J_ltI hq (fun v27 hq => ?_)
            refine J_istore_n (pc := 113) X (L' := [(3, .inl v27), (5, .inl v9), (0, .inr (.inr 155)), (1, .inl x1), (2, .inl x2), (4, .inl x4)]) (i := 3) rfl (by decide) rfl dX13_against_113 ?_
            refine J_iinc (pc := 114) X (j := 5) (v := 1) (L' := [(4, .inl (x4 + 1)), (3, .inl v27), (5, .inl v9), (0, .inr (.inr 155)), (1, .inl x1), (2, .inl x2)]) rfl (by decide) (by decide) rfl dX13_against_114 ?_
            refine J_goto (pc := 117) X (tgt := 34) dX13_against_117 rfl ?_
            refine J_sub [3, 4, 5, 1, 0] rfl ?_
            exact hself _ _ _ _ hq
          · have hq := ite_t hq c26
            refine J_sub [1, 2, 3, 5, 0] rfl ?_
            exact tB_X13_against_85 X _ _ _ _ _ _ _ _ _ hk120 hself hq
      · have hq := ite_t hq c11
        refine J_goto (pc := 62) X (tgt := 114) dX13_against_62 rfl ?_
        refine J_iinc (pc := 114) X (j := 5) (v := 1) (L' := [(4, .inl (x4 + 1)), (5, .inl v9), (0, .inr (.inr 155)), (1, .inl x1), (2, .inl x2), (3, .inl x3)]) rfl (by decide) (by decide) rfl dX13_against_114 ?_
        refine J_goto (pc := 117) X (tgt := 34) dX13_against_117 rfl ?_
        refine J_sub [2, 3, 4, 5, 0] rfl ?_
        exact hself _ _ _ _ hq
theorem tL_X13_against_34 {κ : Kx} (X : OK κ cX13_against 6 (some .int) "StruckWordsModel" 5) (x1 : Int32) (x2 : Int32) (k120 : Int32 → Hp → Option (Int32 × Hp)) (N : Nat) (x3 : Int32) (x4 : Int32) (h : Hp) (q : (Int32 × Hp)) (hk120 : ∀ (x3 : Int32) (h : Hp) (q : (Int32 × Hp)), k120 x3 h = some q → J κ 120 [(3, .inl x3)] [] h (some (.inl q.1), q.2)) (hq : itr3 (F_X13_against_34 x1 x2 k120) N x3 x4 h = some q) : J κ 34 [(0, .inr (.inr 155)), (1, .inl x1), (2, .inl x2), (3, .inl x3), (4, .inl x4)] [] h (some (.inl q.1), q.2) :=
  itr3_ind (fun self hs x3 x4 h q hq => tF_X13_against_34 X x1 x2 k120 self x3 x4 h q hk120 hs hq) N x3 x4 h q hq
theorem tf_X13_against {κ : Kx} (X : OK κ cX13_against 6 (some .int) "StruckWordsModel" 5) (x1 : Int32) (h : Hp) (q : (Int32 × Hp)) (hq : f_X13_against x1 h = some q) : J κ 0 [(0, .inr (.inr 155)), (1, .inl x1)] [] h (some (.inl q.1), q.2) := by
  delta f_X13_against at hq
  refine J_aload_n (pc := 0) X (j := 0) (i := 0) rfl rfl dX13_against_0 ?_
  refine J_iconst (pc := 1) X (v := 0) (by decide) dX13_against_1 ?_
  refine J_putI (pc := 2) X ly155 fp_13_1 dX13_against_2 ?_
  refine J_ltH hq (fun h1 hq => ?_)
  refine J_iload_n (pc := 5) X (j := 1) (i := 1) rfl rfl dX13_against_5 ?_
  refine J_iconst (pc := 6) X (v := 0) (by decide) dX13_against_6 ?_
  refine J_aload_n (pc := 7) X (j := 0) (i := 0) rfl rfl dX13_against_7 ?_
  refine J_getF (pc := 8) X (b := 157) ly155 fl_13_33 rfl dX13_against_8 ?_
  refine J_iconst (pc := 11) X (v := 1) (by decide) dX13_against_11 ?_
  refine J_iaload (pc := 12) X ly157 (by decide) dX13_against_12 ?_
  refine J_iconst (pc := 13) X (v := 1) (by decide) dX13_against_13 ?_
  refine J_isub (pc := 14) X dX13_against_14 ?_
  obtain ⟨v3, h2, hc, hq⟩ := bnd_e hq
  refine J_callS (pc := 15) (as := [.inl x1, .inl 0, .inl ((h1.1 157 ((1 : Int32).toNatClampNeg)) - 1)]) (st := []) (st2 := [.inl v3]) (r1 := (some (.inl v3), h2)) (h2 := h2) (ky := 1) X dX13_against_15 ca_X13_isIn cz_X13_isIn ml_13_204 (by decide) (m_X13_isIn _ _ _ _ _ hc) rfl rfl (Nat.le_of_ble_eq_true rfl) rfl rfl ?_
  refine J_if_ne (pc := 18) (tgt := 23) X dX13_against_18 rfl (fun c4 => ?_) (fun c4 => ?_)
  · have hq := ite_f hq c4
    refine J_aload_n (pc := 23) X (j := 0) (i := 0) rfl rfl dX13_against_23 ?_
    refine J_iconst (pc := 24) X (v := 0) (by decide) dX13_against_24 ?_
    obtain ⟨v6, h5, hc, hq⟩ := bnd_e hq
    refine J_callV (pc := 25) (as := [.inl 0]) (st := []) (st2 := [.inl v6]) (r1 := (some (.inl v6), h5)) (h2 := h5) (ky := 4) X dX13_against_25 ca_X13_textMeans ci_X13_textMeans cs_X13_textMeans ml_13_335 (by decide) ly155 rfl rfl (m_X13_textMeans _ _ _ hc) rfl rfl (Nat.le_of_ble_eq_true rfl) rfl rfl ?_
    refine J_istore_n (pc := 28) X (L' := [(2, .inl v6), (0, .inr (.inr 155)), (1, .inl x1)]) (i := 2) rfl (by decide) rfl dX13_against_28 ?_
    refine J_iconst (pc := 29) X (v := 0) (by decide) dX13_against_29 ?_
    refine J_istore_n (pc := 30) X (L' := [(3, .inl 0), (2, .inl v6), (0, .inr (.inr 155)), (1, .inl x1)]) (i := 3) rfl (by decide) rfl dX13_against_30 ?_
    refine J_iconst (pc := 31) X (v := 1) (by decide) dX13_against_31 ?_
    refine J_istore (pc := 32) X (L' := [(4, .inl 1), (3, .inl 0), (2, .inl v6), (0, .inr (.inr 155)), (1, .inl x1)]) (by decide) rfl dX13_against_32 ?_
    refine J_sub [3, 4, 2, 1, 0] rfl ?_
    refine tL_X13_against_34 X _ _ _ N0 _ _ _ _ ?_ hq
    · intro v29 h28 q hq
      refine J_iload_n (pc := 120) X (j := 0) (i := 3) rfl rfl dX13_against_120 ?_
      obtain rfl := Option.some.inj hq
      exact J_iret (pc := 121) X dX13_against_121
  · have hq := ite_t hq c4
    refine J_iconst (pc := 21) X (v := (-1)) (by decide) dX13_against_21 ?_
    obtain rfl := Option.some.inj hq
    exact J_iret (pc := 22) X dX13_against_22
theorem m_X13_against (x1 : Int32) (h : Hp) (q : (Int32 × Hp)) (hq : f_X13_against x1 h = some q) : ∀ l w, CT l w yX13_against cX13_against 6 (some .int) 5 [.inr (.inr 155), .inl x1] h (some (.inl q.1), q.2) :=
  CT_of (L0 := [(0, .inr (.inr 155)), (1, .inl x1)]) (by decide) rfl (Nat.le_of_ble_eq_true rfl) (fun κ X => tf_X13_against X x1 h q  hq)
theorem tF_X13_twice_46 {κ : Kx} (X : OK κ cX13_twice 4 (some .int) "StruckWordsModel" 4) (x2 : Int32) (k72 : Hp → Option (Int32 × Hp)) (self : Int32 → Hp → Option (Int32 × Hp)) (x3 : Int32) (h : Hp) (q : (Int32 × Hp)) (hk72 : ∀ (h : Hp) (q : (Int32 × Hp)), k72 h = some q → J κ 72 [(0, .inr (.inr 155)), (2, .inl x2)] [] h (some (.inl q.1), q.2)) (hself : ∀ (x3 : Int32) (h : Hp) (q : (Int32 × Hp)), self x3 h = some q → J κ 46 [(0, .inr (.inr 155)), (2, .inl x2), (3, .inl x3)] [] h (some (.inl q.1), q.2)) (hq : F_X13_twice_46 x2 k72 self x3 h = some q) : J κ 46 [(0, .inr (.inr 155)), (2, .inl x2), (3, .inl x3)] [] h (some (.inl q.1), q.2) := by
  delta F_X13_twice_46 at hq
  refine J_iload_n (pc := 46) X (j := 2) (i := 3) rfl rfl dX13_twice_46 ?_
  refine J_aload_n (pc := 47) X (j := 0) (i := 0) rfl rfl dX13_twice_47 ?_
  refine J_getI (pc := 48) X ly155 fl_13_303 dX13_twice_48 ?_
  refine J_icmp_ge (pc := 51) (tgt := 72) X dX13_twice_51 rfl (fun c10 => ?_) (fun c10 => ?_)
  · have hq := ite_t hq c10
    refine J_sub [0, 1] rfl ?_
    exact hk72 _ _ hq
  · have hq := ite_f hq c10
    refine J_aload_n (pc := 54) X (j := 0) (i := 0) rfl rfl dX13_twice_54 ?_
    refine J_getF (pc := 55) X (b := 161) ly155 fl_13_47 rfl dX13_twice_55 ?_
    refine J_iload_n (pc := 58) X (j := 2) (i := 3) rfl rfl dX13_twice_58 ?_
    refine J_aload_n (pc := 59) X (j := 0) (i := 0) rfl rfl dX13_twice_59 ?_
    refine J_getF (pc := 60) X (b := 162) ly155 fl_13_50 rfl dX13_twice_60 ?_
    refine J_iload_n (pc := 63) X (j := 2) (i := 3) rfl rfl dX13_twice_63 ?_
    obtain ⟨g11, hq⟩ := gd hq
    refine J_iaload (pc := 64) X ly162 g11 dX13_twice_64 ?_
    obtain ⟨g12, hq⟩ := gd hq
    refine J_iastore (pc := 65) X ly161 g12 dX13_twice_65 ?_
    refine J_ltH hq (fun h13 hq => ?_)
    refine J_iinc (pc := 66) X (j := 2) (v := 1) (L' := [(3, .inl (x3 + 1)), (0, .inr (.inr 155)), (2, .inl x2)]) rfl (by decide) (by decide) rfl dX13_twice_66 ?_
    refine J_goto (pc := 69) X (tgt := 46) dX13_twice_69 rfl ?_
    refine J_sub [1, 2, 0] rfl ?_
    exact hself _ _ _ hq
theorem tL_X13_twice_46 {κ : Kx} (X : OK κ cX13_twice 4 (some .int) "StruckWordsModel" 4) (x2 : Int32) (k72 : Hp → Option (Int32 × Hp)) (N : Nat) (x3 : Int32) (h : Hp) (q : (Int32 × Hp)) (hk72 : ∀ (h : Hp) (q : (Int32 × Hp)), k72 h = some q → J κ 72 [(0, .inr (.inr 155)), (2, .inl x2)] [] h (some (.inl q.1), q.2)) (hq : itr2 (F_X13_twice_46 x2 k72) N x3 h = some q) : J κ 46 [(0, .inr (.inr 155)), (2, .inl x2), (3, .inl x3)] [] h (some (.inl q.1), q.2) :=
  itr2_ind (fun self hs x3 h q hq => tF_X13_twice_46 X x2 k72 self x3 h q hk72 hs hq) N x3 h q hq
theorem tf_X13_twice {κ : Kx} (X : OK κ cX13_twice 4 (some .int) "StruckWordsModel" 4) (x1 : Int32) (x2 : Int32) (h : Hp) (q : (Int32 × Hp)) (hq : f_X13_twice x1 x2 h = some q) : J κ 0 [(0, .inr (.inr 155)), (1, .inl x1), (2, .inl x2)] [] h (some (.inl q.1), q.2) := by
  delta f_X13_twice at hq
  refine J_aload_n (pc := 0) X (j := 0) (i := 0) rfl rfl dX13_twice_0 ?_
  refine J_iconst (pc := 1) X (v := 0) (by decide) dX13_twice_1 ?_
  refine J_putI (pc := 2) X ly155 fp_13_1 dX13_twice_2 ?_
  refine J_ltH hq (fun h1 hq => ?_)
  refine J_iload_n (pc := 5) X (j := 1) (i := 1) rfl rfl dX13_twice_5 ?_
  refine J_iconst (pc := 6) X (v := 1) (by decide) dX13_twice_6 ?_
  refine J_aload_n (pc := 7) X (j := 0) (i := 0) rfl rfl dX13_twice_7 ?_
  refine J_getF (pc := 8) X (b := 157) ly155 fl_13_33 rfl dX13_twice_8 ?_
  refine J_iconst (pc := 11) X (v := 3) (by decide) dX13_twice_11 ?_
  refine J_iaload (pc := 12) X ly157 (by decide) dX13_twice_12 ?_
  obtain ⟨v3, h2, hc, hq⟩ := bnd_e hq
  refine J_callS (pc := 13) (as := [.inl x1, .inl 1, .inl (h1.1 157 ((3 : Int32).toNatClampNeg))]) (st := []) (st2 := [.inl v3]) (r1 := (some (.inl v3), h2)) (h2 := h2) (ky := 1) X dX13_twice_13 ca_X13_isIn cz_X13_isIn ml_13_204 (by decide) (m_X13_isIn _ _ _ _ _ hc) rfl rfl (Nat.le_of_ble_eq_true rfl) rfl rfl ?_
  refine J_if_eq (pc := 16) (tgt := 33) X dX13_twice_16 rfl (fun c4 => ?_) (fun c4 => ?_)
  · have hq := ite_t hq c4
    refine J_iconst (pc := 33) X (v := (-1)) (by decide) dX13_twice_33 ?_
    obtain rfl := Option.some.inj hq
    exact J_iret (pc := 34) X dX13_twice_34
  · have hq := ite_f hq c4
    refine J_iload_n (pc := 19) X (j := 2) (i := 2) rfl rfl dX13_twice_19 ?_
    refine J_iconst (pc := 20) X (v := 1) (by decide) dX13_twice_20 ?_
    refine J_aload_n (pc := 21) X (j := 0) (i := 0) rfl rfl dX13_twice_21 ?_
    refine J_getF (pc := 22) X (b := 157) ly155 fl_13_33 rfl dX13_twice_22 ?_
    refine J_iconst (pc := 25) X (v := 3) (by decide) dX13_twice_25 ?_
    refine J_iaload (pc := 26) X ly157 (by decide) dX13_twice_26 ?_
    obtain ⟨v6, h5, hc, hq⟩ := bnd_e hq
    refine J_callS (pc := 27) (as := [.inl x2, .inl 1, .inl (h2.1 157 ((3 : Int32).toNatClampNeg))]) (st := []) (st2 := [.inl v6]) (r1 := (some (.inl v6), h5)) (h2 := h5) (ky := 1) X dX13_twice_27 ca_X13_isIn cz_X13_isIn ml_13_204 (by decide) (m_X13_isIn _ _ _ _ _ hc) rfl rfl (Nat.le_of_ble_eq_true rfl) rfl rfl ?_
    refine J_if_ne (pc := 30) (tgt := 35) X dX13_twice_30 rfl (fun c7 => ?_) (fun c7 => ?_)
    · have hq := ite_f hq c7
      refine J_aload_n (pc := 35) X (j := 0) (i := 0) rfl rfl dX13_twice_35 ?_
      obtain ⟨h8, hc, hq⟩ := bnv_e hq
      refine J_callV (pc := 36) (as := []) (st := []) (st2 := []) (r1 := (none, h8)) (h2 := h8) (ky := 2) X dX13_twice_36 ca_X13_settle ci_X13_settle cs_X13_settle ml_13_328 (by decide) ly155 rfl rfl (m_X13_settle _ _ hc) rfl rfl (Nat.le_of_ble_eq_true rfl) rfl rfl ?_
      refine J_aload_n (pc := 39) X (j := 0) (i := 0) rfl rfl dX13_twice_39 ?_
      refine J_iload_n (pc := 40) X (j := 1) (i := 1) rfl rfl dX13_twice_40 ?_
      obtain ⟨h9, hc, hq⟩ := bnv_e hq
      refine J_callV (pc := 41) (as := [.inl x1]) (st := []) (st2 := []) (r1 := (none, h9)) (h2 := h9) (ky := 3) X dX13_twice_41 ca_X13_leaveText ci_X13_leaveText cs_X13_leaveText ml_13_313 (by decide) ly155 rfl rfl (m_X13_leaveText _ _ _ hc) rfl rfl (Nat.le_of_ble_eq_true rfl) rfl rfl ?_
      refine J_iconst (pc := 44) X (v := 0) (by decide) dX13_twice_44 ?_
      refine J_istore_n (pc := 45) X (L' := [(3, .inl 0), (0, .inr (.inr 155)), (1, .inl x1), (2, .inl x2)]) (i := 3) rfl (by decide) rfl dX13_twice_45 ?_
      refine J_sub [1, 3, 0] rfl ?_
      refine tL_X13_twice_46 X _ _ N0 _ _ _ ?_ hq
      · intro h14 q hq
        refine J_aload_n (pc := 72) X (j := 0) (i := 0) rfl rfl dX13_twice_72 ?_
        refine J_aload_n (pc := 73) X (j := 0) (i := 0) rfl rfl dX13_twice_73 ?_
        refine J_getF (pc := 74) X (b := 161) ly155 fl_13_47 rfl dX13_twice_74 ?_
        refine J_aload_n (pc := 77) X (j := 0) (i := 0) rfl rfl dX13_twice_77 ?_
        refine J_getI (pc := 78) X ly155 fl_13_303 dX13_twice_78 ?_
        refine J_iload_n (pc := 81) X (j := 1) (i := 2) rfl rfl dX13_twice_81 ?_
        obtain ⟨h15, hc, hq⟩ := bnv_e hq
        refine J_callV (pc := 82) (as := [.inr (.inr 161), .inl (h14.1 155 27), .inl x2]) (st := []) (st2 := []) (r1 := (none, h15)) (h2 := h15) (ky := 2) X dX13_twice_82 ca_X13_leave ci_X13_leave cs_X13_leave ml_13_306 (by decide) ly155 rfl rfl (m_X13_leave _ _ _ _ _ (aln_of ly161) hc) rfl rfl (Nat.le_of_ble_eq_true rfl) rfl rfl ?_
        refine J_aload_n (pc := 85) X (j := 0) (i := 0) rfl rfl dX13_twice_85 ?_
        refine J_aload_n (pc := 86) X (j := 0) (i := 0) rfl rfl dX13_twice_86 ?_
        refine J_getF (pc := 87) X (b := 162) ly155 fl_13_50 rfl dX13_twice_87 ?_
        refine J_aload_n (pc := 90) X (j := 0) (i := 0) rfl rfl dX13_twice_90 ?_
        refine J_getI (pc := 91) X ly155 fl_13_303 dX13_twice_91 ?_
        obtain ⟨v17, h16, hc, hq⟩ := bnd_e hq
        refine J_callV (pc := 94) (as := [.inr (.inr 162), .inl (h15.1 155 27)]) (st := []) (st2 := [.inl v17]) (r1 := (some (.inl v17), h16)) (h2 := h16) (ky := 2) X dX13_twice_94 ca_X13_meant ci_X13_meant cs_X13_meant ml_13_331 (by decide) ly155 rfl rfl (m_X13_meant _ _ _ _ (aln_of ly162) hc) rfl rfl (Nat.le_of_ble_eq_true rfl) rfl rfl ?_
        obtain rfl := Option.some.inj hq
        exact J_iret (pc := 97) X dX13_twice_97
    · have hq := ite_t hq c7
      refine J_iconst (pc := 33) X (v := (-1)) (by decide) dX13_twice_33 ?_
      obtain rfl := Option.some.inj hq
      exact J_iret (pc := 34) X dX13_twice_34
theorem m_X13_twice (x1 : Int32) (x2 : Int32) (h : Hp) (q : (Int32 × Hp)) (hq : f_X13_twice x1 x2 h = some q) : ∀ l w, CT l w yX13_twice cX13_twice 4 (some .int) 4 [.inr (.inr 155), .inl x1, .inl x2] h (some (.inl q.1), q.2) :=
  CT_of (L0 := [(0, .inr (.inr 155)), (1, .inl x1), (2, .inl x2)]) (by decide) rfl (Nat.le_of_ble_eq_true rfl) (fun κ X => tf_X13_twice X x1 x2 h q  hq)
theorem tF_X13_standIn_27 {κ : Kx} (X : OK κ cX13_standIn 7 (some .int) "StruckWordsModel" 5) (x1 : Int32) (k54 : Hp → Option (Int32 × Hp)) (self : Int32 → Hp → Option (Int32 × Hp)) (x2 : Int32) (h : Hp) (q : (Int32 × Hp)) (hk54 : ∀ (h : Hp) (q : (Int32 × Hp)), k54 h = some q → J κ 54 [(0, .inr (.inr 155)), (1, .inl x1)] [] h (some (.inl q.1), q.2)) (hself : ∀ (x2 : Int32) (h : Hp) (q : (Int32 × Hp)), self x2 h = some q → J κ 27 [(0, .inr (.inr 155)), (1, .inl x1), (2, .inl x2)] [] h (some (.inl q.1), q.2)) (hq : F_X13_standIn_27 x1 k54 self x2 h = some q) : J κ 27 [(0, .inr (.inr 155)), (1, .inl x1), (2, .inl x2)] [] h (some (.inl q.1), q.2) := by
  delta F_X13_standIn_27 at hq
  refine J_iload_n (pc := 27) X (j := 2) (i := 2) rfl rfl dX13_standIn_27 ?_
  refine J_aload_n (pc := 28) X (j := 0) (i := 0) rfl rfl dX13_standIn_28 ?_
  refine J_getF (pc := 29) X (b := 157) ly155 fl_13_33 rfl dX13_standIn_29 ?_
  refine J_iconst (pc := 32) X (v := 3) (by decide) dX13_standIn_32 ?_
  refine J_iaload (pc := 33) X ly157 (by decide) dX13_standIn_33 ?_
  refine J_icmp_gt (pc := 34) (tgt := 54) X dX13_standIn_34 rfl (fun c5 => ?_) (fun c5 => ?_)
  · have hq := ite_t hq c5
    refine J_sub [0, 1] rfl ?_
    exact hk54 _ _ hq
  · have hq := ite_f hq c5
    refine J_aload_n (pc := 37) X (j := 0) (i := 0) rfl rfl dX13_standIn_37 ?_
    refine J_getF (pc := 38) X (b := 168) ly155 fl_13_72 rfl dX13_standIn_38 ?_
    refine J_iload_n (pc := 41) X (j := 2) (i := 2) rfl rfl dX13_standIn_41 ?_
    refine J_aload_n (pc := 42) X (j := 0) (i := 0) rfl rfl dX13_standIn_42 ?_
    refine J_iload_n (pc := 43) X (j := 2) (i := 2) rfl rfl dX13_standIn_43 ?_
    obtain ⟨v7, h6, hc, hq⟩ := bnd_e hq
    refine J_callV (pc := 44) (as := [.inl x2]) (st := [.inl x2, .inr (.inr 168)]) (st2 := [.inl v7, .inl x2, .inr (.inr 168)]) (r1 := (some (.inl v7), h6)) (h2 := h6) (ky := 4) X dX13_standIn_44 ca_X13_textMeans ci_X13_textMeans cs_X13_textMeans ml_13_335 (by decide) ly155 rfl rfl (m_X13_textMeans _ _ _ hc) rfl rfl (Nat.le_of_ble_eq_true rfl) rfl rfl ?_
    obtain ⟨g8, hq⟩ := gd hq
    refine J_iastore (pc := 47) X ly168 g8 dX13_standIn_47 ?_
    refine J_ltH hq (fun h9 hq => ?_)
    refine J_iinc (pc := 48) X (j := 2) (v := 1) (L' := [(2, .inl (x2 + 1)), (0, .inr (.inr 155)), (1, .inl x1)]) rfl (by decide) (by decide) rfl dX13_standIn_48 ?_
    refine J_goto (pc := 51) X (tgt := 27) dX13_standIn_51 rfl ?_
    refine J_sub [1, 2, 0] rfl ?_
    exact hself _ _ _ hq
theorem tL_X13_standIn_27 {κ : Kx} (X : OK κ cX13_standIn 7 (some .int) "StruckWordsModel" 5) (x1 : Int32) (k54 : Hp → Option (Int32 × Hp)) (N : Nat) (x2 : Int32) (h : Hp) (q : (Int32 × Hp)) (hk54 : ∀ (h : Hp) (q : (Int32 × Hp)), k54 h = some q → J κ 54 [(0, .inr (.inr 155)), (1, .inl x1)] [] h (some (.inl q.1), q.2)) (hq : itr2 (F_X13_standIn_27 x1 k54) N x2 h = some q) : J κ 27 [(0, .inr (.inr 155)), (1, .inl x1), (2, .inl x2)] [] h (some (.inl q.1), q.2) :=
  itr2_ind (fun self hs x2 h q hq => tF_X13_standIn_27 X x1 k54 self x2 h q hk54 hs hq) N x2 h q hq
theorem tF_X13_standIn_99 {κ : Kx} (X : OK κ cX13_standIn 7 (some .int) "StruckWordsModel" 5) (x1 : Int32) (x2 : Int32) (x3 : Int32) (x4 : Int32) (k144 : Int32 → Hp → Option (Int32 × Hp)) (self : Int32 → Int32 → Hp → Option (Int32 × Hp)) (x5 : Int32) (x6 : Int32) (h : Hp) (q : (Int32 × Hp)) (hk144 : ∀ (x5 : Int32) (h : Hp) (q : (Int32 × Hp)), k144 x5 h = some q → J κ 144 [(0, .inr (.inr 155)), (1, .inl x1), (2, .inl x2), (3, .inl x3), (4, .inl x4), (5, .inl x5)] [] h (some (.inl q.1), q.2)) (hself : ∀ (x5 : Int32) (x6 : Int32) (h : Hp) (q : (Int32 × Hp)), self x5 x6 h = some q → J κ 99 [(0, .inr (.inr 155)), (1, .inl x1), (2, .inl x2), (3, .inl x3), (4, .inl x4), (5, .inl x5), (6, .inl x6)] [] h (some (.inl q.1), q.2)) (hq : F_X13_standIn_99 x1 x2 x3 x4 k144 self x5 x6 h = some q) : J κ 99 [(0, .inr (.inr 155)), (1, .inl x1), (2, .inl x2), (3, .inl x3), (4, .inl x4), (5, .inl x5), (6, .inl x6)] [] h (some (.inl q.1), q.2) := by
  delta F_X13_standIn_99 at hq
  refine J_iload (pc := 99) X (j := 6) rfl dX13_standIn_99 ?_
  refine J_aload_n (pc := 101) X (j := 0) (i := 0) rfl rfl dX13_standIn_101 ?_
  refine J_getF (pc := 102) X (b := 157) ly155 fl_13_33 rfl dX13_standIn_102 ?_
  refine J_iconst (pc := 105) X (v := 3) (by decide) dX13_standIn_105 ?_
  refine J_iaload (pc := 106) X ly157 (by decide) dX13_standIn_106 ?_
  refine J_icmp_gt (pc := 107) (tgt := 144) X dX13_standIn_107 rfl (fun c16 => ?_) (fun c16 => ?_)
  · have hq := ite_t hq c16
    refine J_sub [0, 1, 2, 3, 4, 5] rfl ?_
    exact hk144 _ _ _ hq
  · have hq := ite_f hq c16
    refine J_iload (pc := 110) X (j := 5) rfl dX13_standIn_110 ?_
    refine J_if_eq (pc := 112) (tgt := 135) X dX13_standIn_112 rfl (fun c17 => ?_) (fun c17 => ?_)
    · have hq := ite_t hq c17
      refine J_iconst (pc := 135) X (v := 0) (by decide) dX13_standIn_135 ?_
      refine J_istore (pc := 136) X (L' := [(5, .inl 0), (0, .inr (.inr 155)), (1, .inl x1), (2, .inl x2), (3, .inl x3), (4, .inl x4), (6, .inl x6)]) (by decide) rfl dX13_standIn_136 ?_
      refine J_iinc (pc := 138) X (j := 6) (v := 1) (L' := [(6, .inl (x6 + 1)), (5, .inl 0), (0, .inr (.inr 155)), (1, .inl x1), (2, .inl x2), (3, .inl x3), (4, .inl x4)]) rfl (by decide) (by decide) rfl dX13_standIn_138 ?_
      refine J_goto (pc := 141) X (tgt := 99) dX13_standIn_141 rfl ?_
      refine J_sub [2, 3, 4, 5, 6, 1, 0] rfl ?_
      exact hself _ _ _ _ hq
    · have hq := ite_f hq c17
      refine J_aload_n (pc := 115) X (j := 0) (i := 0) rfl rfl dX13_standIn_115 ?_
      refine J_iload (pc := 116) X (j := 6) rfl dX13_standIn_116 ?_
      obtain ⟨v19, h18, hc, hq⟩ := bnd_e hq
      refine J_callV (pc := 118) (as := [.inl x6]) (st := []) (st2 := [.inl v19]) (r1 := (some (.inl v19), h18)) (h2 := h18) (ky := 4) X dX13_standIn_118 ca_X13_textMeans ci_X13_textMeans cs_X13_textMeans ml_13_335 (by decide) ly155 rfl rfl (m_X13_textMeans _ _ _ hc) rfl rfl (Nat.le_of_ble_eq_true rfl) rfl rfl ?_
      refine J_aload_n (pc := 121) X (j := 0) (i := 0) rfl rfl dX13_standIn_121 ?_
      refine J_getF (pc := 122) X (b := 168) ly155 fl_13_72 rfl dX13_standIn_122 ?_
      refine J_iload (pc := 125) X (j := 6) rfl dX13_standIn_125 ?_
      obtain ⟨g20, hq⟩ := gd hq
      refine J_iaload (pc := 127) X ly168 g20 dX13_standIn_127 ?_
      refine J_icmp_ne (pc := 128) (tgt := 135) X dX13_standIn_128 rfl (fun c21 => ?_) (fun c21 => ?_)
      · have hq := ite_f hq c21
        refine J_iconst (pc := 135) X (v := 0) (by decide) dX13_standIn_135 ?_
        refine J_istore (pc := 136) X (L' := [(5, .inl 0), (0, .inr (.inr 155)), (1, .inl x1), (2, .inl x2), (3, .inl x3), (4, .inl x4), (6, .inl x6)]) (by decide) rfl dX13_standIn_136 ?_
        refine J_iinc (pc := 138) X (j := 6) (v := 1) (L' := [(6, .inl (x6 + 1)), (5, .inl 0), (0, .inr (.inr 155)), (1, .inl x1), (2, .inl x2), (3, .inl x3), (4, .inl x4)]) rfl (by decide) (by decide) rfl dX13_standIn_138 ?_
        refine J_goto (pc := 141) X (tgt := 99) dX13_standIn_141 rfl ?_
        refine J_sub [2, 3, 4, 5, 6, 1, 0] rfl ?_
        exact hself _ _ _ _ hq
      · have hq := ite_t hq c21
        refine J_iconst (pc := 131) X (v := 1) (by decide) dX13_standIn_131 ?_
        refine J_goto (pc := 132) X (tgt := 136) dX13_standIn_132 rfl ?_
        refine J_istore (pc := 136) X (L' := [(5, .inl 1), (0, .inr (.inr 155)), (1, .inl x1), (2, .inl x2), (3, .inl x3), (4, .inl x4), (6, .inl x6)]) (by decide) rfl dX13_standIn_136 ?_
        refine J_iinc (pc := 138) X (j := 6) (v := 1) (L' := [(6, .inl (x6 + 1)), (5, .inl 1), (0, .inr (.inr 155)), (1, .inl x1), (2, .inl x2), (3, .inl x3), (4, .inl x4)]) rfl (by decide) (by decide) rfl dX13_standIn_138 ?_
        refine J_goto (pc := 141) X (tgt := 99) dX13_standIn_141 rfl ?_
        refine J_sub [2, 3, 4, 5, 6, 1, 0] rfl ?_
        exact hself _ _ _ _ hq
theorem tL_X13_standIn_99 {κ : Kx} (X : OK κ cX13_standIn 7 (some .int) "StruckWordsModel" 5) (x1 : Int32) (x2 : Int32) (x3 : Int32) (x4 : Int32) (k144 : Int32 → Hp → Option (Int32 × Hp)) (N : Nat) (x5 : Int32) (x6 : Int32) (h : Hp) (q : (Int32 × Hp)) (hk144 : ∀ (x5 : Int32) (h : Hp) (q : (Int32 × Hp)), k144 x5 h = some q → J κ 144 [(0, .inr (.inr 155)), (1, .inl x1), (2, .inl x2), (3, .inl x3), (4, .inl x4), (5, .inl x5)] [] h (some (.inl q.1), q.2)) (hq : itr3 (F_X13_standIn_99 x1 x2 x3 x4 k144) N x5 x6 h = some q) : J κ 99 [(0, .inr (.inr 155)), (1, .inl x1), (2, .inl x2), (3, .inl x3), (4, .inl x4), (5, .inl x5), (6, .inl x6)] [] h (some (.inl q.1), q.2) :=
  itr3_ind (fun self hs x5 x6 h q hq => tF_X13_standIn_99 X x1 x2 x3 x4 k144 self x5 x6 h q hk144 hs hq) N x5 x6 h q hq
theorem tF_X13_standIn_70 {κ : Kx} (X : OK κ cX13_standIn 7 (some .int) "StruckWordsModel" 5) (x1 : Int32) (x2 : Int32) (k166 : Int32 → Hp → Option (Int32 × Hp)) (self : Int32 → Int32 → Hp → Option (Int32 × Hp)) (x3 : Int32) (x4 : Int32) (h : Hp) (q : (Int32 × Hp)) (hk166 : ∀ (x3 : Int32) (h : Hp) (q : (Int32 × Hp)), k166 x3 h = some q → J κ 166 [(0, .inr (.inr 155)), (1, .inl x1), (2, .inl x2), (3, .inl x3)] [] h (some (.inl q.1), q.2)) (hself : ∀ (x3 : Int32) (x4 : Int32) (h : Hp) (q : (Int32 × Hp)), self x3 x4 h = some q → J κ 70 [(0, .inr (.inr 155)), (1, .inl x1), (2, .inl x2), (3, .inl x3), (4, .inl x4)] [] h (some (.inl q.1), q.2)) (hq : F_X13_standIn_70 x1 x2 k166 self x3 x4 h = some q) : J κ 70 [(0, .inr (.inr 155)), (1, .inl x1), (2, .inl x2), (3, .inl x3), (4, .inl x4)] [] h (some (.inl q.1), q.2) := by
  delta F_X13_standIn_70 at hq
  refine J_iload (pc := 70) X (j := 4) rfl dX13_standIn_70 ?_
  refine J_aload_n (pc := 72) X (j := 0) (i := 0) rfl rfl dX13_standIn_72 ?_
  refine J_getF (pc := 73) X (b := 157) ly155 fl_13_33 rfl dX13_standIn_73 ?_
  refine J_iconst (pc := 76) X (v := 2) (by decide) dX13_standIn_76 ?_
  refine J_iaload (pc := 77) X ly157 (by decide) dX13_standIn_77 ?_
  refine J_icmp_ge (pc := 78) (tgt := 166) X dX13_standIn_78 rfl (fun c13 => ?_) (fun c13 => ?_)
  · have hq := ite_t hq c13
    refine J_sub [0, 1, 2, 3] rfl ?_
    exact hk166 _ _ _ hq
  · have hq := ite_f hq c13
    refine J_aload_n (pc := 81) X (j := 0) (i := 0) rfl rfl dX13_standIn_81 ?_
    refine J_getF (pc := 82) X (b := 157) ly155 fl_13_33 rfl dX13_standIn_82 ?_
    refine J_sipush (pc := 85) X (v := 438) (by decide) dX13_standIn_85 ?_
    refine J_iload_n (pc := 88) X (j := 1) (i := 1) rfl rfl dX13_standIn_88 ?_
    refine J_iadd (pc := 89) X dX13_standIn_89 ?_
    refine J_iload (pc := 90) X (j := 4) rfl dX13_standIn_90 ?_
    obtain ⟨g14, hq⟩ := gd hq
    refine J_iastore (pc := 92) X ly157 g14 dX13_standIn_92 ?_
    refine J_ltH hq (fun h15 hq => ?_)
    refine J_iconst (pc := 93) X (v := 1) (by decide) dX13_standIn_93 ?_
    refine J_istore (pc := 94) X (L' := [(5, .inl 1), (0, .inr (.inr 155)), (1, .inl x1), (2, .inl x2), (3, .inl x3), (4, .inl x4)]) (by decide) rfl dX13_standIn_94 ?_
    refine J_iconst (pc := 96) X (v := 0) (by decide) dX13_standIn_96 ?_
    refine J_istore (pc := 97) X (L' := [(6, .inl 0), (5, .inl 1), (0, .inr (.inr 155)), (1, .inl x1), (2, .inl x2), (3, .inl x3), (4, .inl x4)]) (by decide) rfl dX13_standIn_97 ?_
    refine J_sub [2, 3, 4, 5, 6, 1, 0] rfl ?_
    refine tL_X13_standIn_99 X _ _ _ _ _ N0 _ _ _ _ ?_ hq
    · intro v23 h22 q hq
      refine J_iload_n (pc := 144) X (j := 3) (i := 3) rfl rfl dX13_standIn_144 ?_
      refine J_iload (pc := 145) X (j := 5) rfl dX13_standIn_145 ?_
      refine J_if_eq (pc := 147) (tgt := 157) X dX13_standIn_147 rfl (fun c24 => ?_) (fun c24 => ?_)
      · have hq := ite_t hq c24
        refine J_iconst (pc := 157) X (v := 0) (by decide) dX13_standIn_157 ?_
        refine J_ior (pc := 158) X dX13_standIn_158 ?_
        refine J_ltI hq (fun v25 hq => ?_)
        refine J_istore_n (pc := 159) X (L' := [(3, .inl v25), (0, .inr (.inr 155)), (1, .inl x1), (2, .inl x2), (4, .inl x4), (5, .inl v23)]) (i := 3) rfl (by decide) rfl dX13_standIn_159 ?_
        refine J_iinc (pc := 160) X (j := 4) (v := 1) (L' := [(4, .inl (x4 + 1)), (3, .inl v25), (0, .inr (.inr 155)), (1, .inl x1), (2, .inl x2), (5, .inl v23)]) rfl (by decide) (by decide) rfl dX13_standIn_160 ?_
        refine J_goto (pc := 163) X (tgt := 70) dX13_standIn_163 rfl ?_
        refine J_sub [2, 3, 4, 1, 0] rfl ?_
        exact hself _ _ _ _ hq
      · have hq := ite_f hq c24
        refine J_iconst (pc := 150) X (v := 1) (by decide) dX13_standIn_150 ?_
        refine J_iload (pc := 151) X (j := 4) rfl dX13_standIn_151 ?_
        refine J_ishl (pc := 153) X dX13_standIn_153 ?_
        refine J_goto (pc := 154) X (tgt := 158) dX13_standIn_154 rfl ?_
        refine J_ior (pc := 158) X dX13_standIn_158 ?_
        refine J_ltI hq (fun v26 hq => ?_)
        refine J_istore_n (pc := 159) X (L' := [(3, .inl v26), (0, .inr (.inr 155)), (1, .inl x1), (2, .inl x2), (4, .inl x4), (5, .inl v23)]) (i := 3) rfl (by decide) rfl dX13_standIn_159 ?_
        refine J_iinc (pc := 160) X (j := 4) (v := 1) (L' := [(4, .inl (x4 + 1)), (3, .inl v26), (0, .inr (.inr 155)), (1, .inl x1), (2, .inl x2), (5, .inl v23)]) rfl (by decide) (by decide) rfl dX13_standIn_160 ?_
        refine J_goto (pc := 163) X (tgt := 70) dX13_standIn_163 rfl ?_
        refine J_sub [2, 3, 4, 1, 0] rfl ?_
        exact hself _ _ _ _ hq
theorem tL_X13_standIn_70 {κ : Kx} (X : OK κ cX13_standIn 7 (some .int) "StruckWordsModel" 5) (x1 : Int32) (x2 : Int32) (k166 : Int32 → Hp → Option (Int32 × Hp)) (N : Nat) (x3 : Int32) (x4 : Int32) (h : Hp) (q : (Int32 × Hp)) (hk166 : ∀ (x3 : Int32) (h : Hp) (q : (Int32 × Hp)), k166 x3 h = some q → J κ 166 [(0, .inr (.inr 155)), (1, .inl x1), (2, .inl x2), (3, .inl x3)] [] h (some (.inl q.1), q.2)) (hq : itr3 (F_X13_standIn_70 x1 x2 k166) N x3 x4 h = some q) : J κ 70 [(0, .inr (.inr 155)), (1, .inl x1), (2, .inl x2), (3, .inl x3), (4, .inl x4)] [] h (some (.inl q.1), q.2) :=
  itr3_ind (fun self hs x3 x4 h q hq => tF_X13_standIn_70 X x1 x2 k166 self x3 x4 h q hk166 hs hq) N x3 x4 h q hq
theorem tf_X13_standIn {κ : Kx} (X : OK κ cX13_standIn 7 (some .int) "StruckWordsModel" 5) (x1 : Int32) (h : Hp) (q : (Int32 × Hp)) (hq : f_X13_standIn x1 h = some q) : J κ 0 [(0, .inr (.inr 155)), (1, .inl x1)] [] h (some (.inl q.1), q.2) := by
  delta f_X13_standIn at hq
  refine J_aload_n (pc := 0) X (j := 0) (i := 0) rfl rfl dX13_standIn_0 ?_
  refine J_iconst (pc := 1) X (v := 0) (by decide) dX13_standIn_1 ?_
  refine J_putI (pc := 2) X ly155 fp_13_1 dX13_standIn_2 ?_
  refine J_ltH hq (fun h1 hq => ?_)
  refine J_iload_n (pc := 5) X (j := 1) (i := 1) rfl rfl dX13_standIn_5 ?_
  refine J_iconst (pc := 6) X (v := 0) (by decide) dX13_standIn_6 ?_
  refine J_aload_n (pc := 7) X (j := 0) (i := 0) rfl rfl dX13_standIn_7 ?_
  refine J_getF (pc := 8) X (b := 157) ly155 fl_13_33 rfl dX13_standIn_8 ?_
  refine J_sipush (pc := 11) X (v := 437) (by decide) dX13_standIn_11 ?_
  refine J_iaload (pc := 14) X ly157 (by decide) dX13_standIn_14 ?_
  refine J_iconst (pc := 15) X (v := 1) (by decide) dX13_standIn_15 ?_
  refine J_isub (pc := 16) X dX13_standIn_16 ?_
  obtain ⟨v3, h2, hc, hq⟩ := bnd_e hq
  refine J_callS (pc := 17) (as := [.inl x1, .inl 0, .inl ((h1.1 157 ((437 : Int32).toNatClampNeg)) - 1)]) (st := []) (st2 := [.inl v3]) (r1 := (some (.inl v3), h2)) (h2 := h2) (ky := 1) X dX13_standIn_17 ca_X13_isIn cz_X13_isIn ml_13_204 (by decide) (m_X13_isIn _ _ _ _ _ hc) rfl rfl (Nat.le_of_ble_eq_true rfl) rfl rfl ?_
  refine J_if_ne (pc := 20) (tgt := 25) X dX13_standIn_20 rfl (fun c4 => ?_) (fun c4 => ?_)
  · have hq := ite_f hq c4
    refine J_iconst (pc := 25) X (v := 0) (by decide) dX13_standIn_25 ?_
    refine J_istore_n (pc := 26) X (L' := [(2, .inl 0), (0, .inr (.inr 155)), (1, .inl x1)]) (i := 2) rfl (by decide) rfl dX13_standIn_26 ?_
    refine J_sub [1, 2, 0] rfl ?_
    refine tL_X13_standIn_27 X _ _ N0 _ _ _ ?_ hq
    · intro h10 q hq
      refine J_aload_n (pc := 54) X (j := 0) (i := 0) rfl rfl dX13_standIn_54 ?_
      refine J_getF (pc := 55) X (b := 157) ly155 fl_13_33 rfl dX13_standIn_55 ?_
      refine J_sipush (pc := 58) X (v := 438) (by decide) dX13_standIn_58 ?_
      refine J_iload_n (pc := 61) X (j := 1) (i := 1) rfl rfl dX13_standIn_61 ?_
      refine J_iadd (pc := 62) X dX13_standIn_62 ?_
      obtain ⟨g11, hq⟩ := gd hq
      refine J_iaload (pc := 63) X ly157 g11 dX13_standIn_63 ?_
      refine J_ltI hq (fun v12 hq => ?_)
      refine J_istore_n (pc := 64) X (L' := [(2, .inl v12), (0, .inr (.inr 155)), (1, .inl x1)]) (i := 2) rfl (by decide) rfl dX13_standIn_64 ?_
      refine J_iconst (pc := 65) X (v := 0) (by decide) dX13_standIn_65 ?_
      refine J_istore_n (pc := 66) X (L' := [(3, .inl 0), (2, .inl v12), (0, .inr (.inr 155)), (1, .inl x1)]) (i := 3) rfl (by decide) rfl dX13_standIn_66 ?_
      refine J_iconst (pc := 67) X (v := 0) (by decide) dX13_standIn_67 ?_
      refine J_istore (pc := 68) X (L' := [(4, .inl 0), (3, .inl 0), (2, .inl v12), (0, .inr (.inr 155)), (1, .inl x1)]) (by decide) rfl dX13_standIn_68 ?_
      refine J_sub [3, 4, 2, 1, 0] rfl ?_
      refine tL_X13_standIn_70 X _ _ _ N0 _ _ _ _ ?_ hq
      · intro v28 h27 q hq
        refine J_aload_n (pc := 166) X (j := 0) (i := 0) rfl rfl dX13_standIn_166 ?_
        refine J_getF (pc := 167) X (b := 157) ly155 fl_13_33 rfl dX13_standIn_167 ?_
        refine J_sipush (pc := 170) X (v := 438) (by decide) dX13_standIn_170 ?_
        refine J_iload_n (pc := 173) X (j := 1) (i := 1) rfl rfl dX13_standIn_173 ?_
        refine J_iadd (pc := 174) X dX13_standIn_174 ?_
        refine J_iload_n (pc := 175) X (j := 2) (i := 2) rfl rfl dX13_standIn_175 ?_
        obtain ⟨g29, hq⟩ := gd hq
        refine J_iastore (pc := 176) X ly157 g29 dX13_standIn_176 ?_
        refine J_ltH hq (fun h30 hq => ?_)
        refine J_iload_n (pc := 177) X (j := 3) (i := 3) rfl rfl dX13_standIn_177 ?_
        obtain rfl := Option.some.inj hq
        exact J_iret (pc := 178) X dX13_standIn_178
  · have hq := ite_t hq c4
    refine J_iconst (pc := 23) X (v := (-1)) (by decide) dX13_standIn_23 ?_
    obtain rfl := Option.some.inj hq
    exact J_iret (pc := 24) X dX13_standIn_24
theorem m_X13_standIn (x1 : Int32) (h : Hp) (q : (Int32 × Hp)) (hq : f_X13_standIn x1 h = some q) : ∀ l w, CT l w yX13_standIn cX13_standIn 7 (some .int) 5 [.inr (.inr 155), .inl x1] h (some (.inl q.1), q.2) :=
  CT_of (L0 := [(0, .inr (.inr 155)), (1, .inl x1)]) (by decide) rfl (Nat.le_of_ble_eq_true rfl) (fun κ X => tf_X13_standIn X x1 h q  hq)
theorem tF_X13_only_2 {κ : Kx} (X : OK κ cX13_only 2 (some .int) "StruckWordsModel" 1) (x0 : Int32) (k15 : Int32 → Hp → Option (Int32 × Hp)) (k23 : Hp → Option (Int32 × Hp)) (self : Int32 → Hp → Option (Int32 × Hp)) (x1 : Int32) (h : Hp) (q : (Int32 × Hp)) (hk15 : ∀ (x1 : Int32) (h : Hp) (q : (Int32 × Hp)), k15 x1 h = some q → J κ 15 [(1, .inl x1)] [] h (some (.inl q.1), q.2)) (hk23 : ∀ (h : Hp) (q : (Int32 × Hp)), k23 h = some q → J κ 23 [] [] h (some (.inl q.1), q.2)) (hself : ∀ (x1 : Int32) (h : Hp) (q : (Int32 × Hp)), self x1 h = some q → J κ 2 [(0, .inl x0), (1, .inl x1)] [] h (some (.inl q.1), q.2)) (hq : F_X13_only_2 x0 k15 k23 self x1 h = some q) : J κ 2 [(0, .inl x0), (1, .inl x1)] [] h (some (.inl q.1), q.2) := by
  delta F_X13_only_2 at hq
  refine J_iload_n (pc := 2) X (j := 1) (i := 1) rfl rfl dX13_only_2 ?_
  refine J_bipush (pc := 3) X (v := 8) (by decide) dX13_only_3 ?_
  refine J_icmp_ge (pc := 5) (tgt := 23) X dX13_only_5 rfl (fun c1 => ?_) (fun c1 => ?_)
  · have hq := ite_t hq c1
    refine J_sub [] rfl ?_
    exact hk23 _ _ hq
  · have hq := ite_f hq c1
    refine J_iload_n (pc := 8) X (j := 0) (i := 0) rfl rfl dX13_only_8 ?_
    refine J_iconst (pc := 9) X (v := 1) (by decide) dX13_only_9 ?_
    refine J_iload_n (pc := 10) X (j := 1) (i := 1) rfl rfl dX13_only_10 ?_
    refine J_ishl (pc := 11) X dX13_only_11 ?_
    refine J_icmp_ne (pc := 12) (tgt := 17) X dX13_only_12 rfl (fun c2 => ?_) (fun c2 => ?_)
    · have hq := ite_f hq c2
      refine J_iinc (pc := 17) X (j := 1) (v := 1) (L' := [(1, .inl (x1 + 1)), (0, .inl x0)]) rfl (by decide) (by decide) rfl dX13_only_17 ?_
      refine J_goto (pc := 20) X (tgt := 2) dX13_only_20 rfl ?_
      refine J_sub [1, 0] rfl ?_
      exact hself _ _ _ hq
    · have hq := ite_t hq c2
      refine J_sub [1] rfl ?_
      exact hk15 _ _ _ hq
theorem tL_X13_only_2 {κ : Kx} (X : OK κ cX13_only 2 (some .int) "StruckWordsModel" 1) (x0 : Int32) (k15 : Int32 → Hp → Option (Int32 × Hp)) (k23 : Hp → Option (Int32 × Hp)) (N : Nat) (x1 : Int32) (h : Hp) (q : (Int32 × Hp)) (hk15 : ∀ (x1 : Int32) (h : Hp) (q : (Int32 × Hp)), k15 x1 h = some q → J κ 15 [(1, .inl x1)] [] h (some (.inl q.1), q.2)) (hk23 : ∀ (h : Hp) (q : (Int32 × Hp)), k23 h = some q → J κ 23 [] [] h (some (.inl q.1), q.2)) (hq : itr2 (F_X13_only_2 x0 k15 k23) N x1 h = some q) : J κ 2 [(0, .inl x0), (1, .inl x1)] [] h (some (.inl q.1), q.2) :=
  itr2_ind (fun self hs x1 h q hq => tF_X13_only_2 X x0 k15 k23 self x1 h q hk15 hk23 hs hq) N x1 h q hq
theorem tf_X13_only {κ : Kx} (X : OK κ cX13_only 2 (some .int) "StruckWordsModel" 1) (x0 : Int32) (h : Hp) (q : (Int32 × Hp)) (hq : f_X13_only x0 h = some q) : J κ 0 [(0, .inl x0)] [] h (some (.inl q.1), q.2) := by
  delta f_X13_only at hq
  refine J_iconst (pc := 0) X (v := 0) (by decide) dX13_only_0 ?_
  refine J_istore_n (pc := 1) X (L' := [(1, .inl 0), (0, .inl x0)]) (i := 1) rfl (by decide) rfl dX13_only_1 ?_
  refine J_sub [1, 0] rfl ?_
  refine tL_X13_only_2 X _ _ _ N0 _ _ _ ?_ ?_ hq
  · intro v4 h3 q hq
    refine J_iload_n (pc := 15) X (j := 0) (i := 1) rfl rfl dX13_only_15 ?_
    obtain rfl := Option.some.inj hq
    exact J_iret (pc := 16) X dX13_only_16
  · intro h5 q hq
    refine J_iconst (pc := 23) X (v := (-1)) (by decide) dX13_only_23 ?_
    obtain rfl := Option.some.inj hq
    exact J_iret (pc := 24) X dX13_only_24
theorem m_X13_only (x0 : Int32) (h : Hp) (q : (Int32 × Hp)) (hq : f_X13_only x0 h = some q) : ∀ l w, CT l w yX13_only cX13_only 2 (some .int) 1 [.inl x0] h (some (.inl q.1), q.2) :=
  CT_of (L0 := [(0, .inl x0)]) (by decide) rfl (Nat.le_of_ble_eq_true rfl) (fun κ X => tf_X13_only X x0 h q  hq)
theorem tF_X13_safe_16 {κ : Kx} (X : OK κ cX13_safe 3 (some .int) "StruckWordsModel" 5) (k49 : Int32 → Hp → Option (Int32 × Hp)) (self : Int32 → Int32 → Hp → Option (Int32 × Hp)) (x1 : Int32) (x2 : Int32) (h : Hp) (q : (Int32 × Hp)) (hk49 : ∀ (x1 : Int32) (h : Hp) (q : (Int32 × Hp)), k49 x1 h = some q → J κ 49 [(1, .inl x1)] [] h (some (.inl q.1), q.2)) (hself : ∀ (x1 : Int32) (x2 : Int32) (h : Hp) (q : (Int32 × Hp)), self x1 x2 h = some q → J κ 16 [(0, .inr (.inr 155)), (1, .inl x1), (2, .inl x2)] [] h (some (.inl q.1), q.2)) (hq : F_X13_safe_16 k49 self x1 x2 h = some q) : J κ 16 [(0, .inr (.inr 155)), (1, .inl x1), (2, .inl x2)] [] h (some (.inl q.1), q.2) := by
  delta F_X13_safe_16 at hq
  refine J_iload_n (pc := 16) X (j := 2) (i := 2) rfl rfl dX13_safe_16 ?_
  refine J_aload_n (pc := 17) X (j := 0) (i := 0) rfl rfl dX13_safe_17 ?_
  refine J_getF (pc := 18) X (b := 157) ly155 fl_13_33 rfl dX13_safe_18 ?_
  refine J_iconst (pc := 21) X (v := 3) (by decide) dX13_safe_21 ?_
  refine J_iaload (pc := 22) X ly157 (by decide) dX13_safe_22 ?_
  refine J_icmp_gt (pc := 23) (tgt := 49) X dX13_safe_23 rfl (fun c6 => ?_) (fun c6 => ?_)
  · have hq := ite_t hq c6
    refine J_sub [1] rfl ?_
    exact hk49 _ _ _ hq
  · have hq := ite_f hq c6
    refine J_iload_n (pc := 26) X (j := 1) (i := 1) rfl rfl dX13_safe_26 ?_
    refine J_if_lt (pc := 27) (tgt := 43) X dX13_safe_27 rfl (fun c7 => ?_) (fun c7 => ?_)
    · have hq := ite_t hq c7
      refine J_iinc (pc := 43) X (j := 2) (v := 1) (L' := [(2, .inl (x2 + 1)), (0, .inr (.inr 155)), (1, .inl x1)]) rfl (by decide) (by decide) rfl dX13_safe_43 ?_
      refine J_goto (pc := 46) X (tgt := 16) dX13_safe_46 rfl ?_
      refine J_sub [1, 2, 0] rfl ?_
      exact hself _ _ _ _ hq
    · have hq := ite_f hq c7
      refine J_aload_n (pc := 30) X (j := 0) (i := 0) rfl rfl dX13_safe_30 ?_
      refine J_iload_n (pc := 31) X (j := 2) (i := 2) rfl rfl dX13_safe_31 ?_
      obtain ⟨v9, h8, hc, hq⟩ := bnd_e hq
      refine J_callV (pc := 32) (as := [.inl x2]) (st := []) (st2 := [.inl v9]) (r1 := (some (.inl v9), h8)) (h2 := h8) (ky := 4) X dX13_safe_32 ca_X13_textMeans ci_X13_textMeans cs_X13_textMeans ml_13_335 (by decide) ly155 rfl rfl (m_X13_textMeans _ _ _ hc) rfl rfl (Nat.le_of_ble_eq_true rfl) rfl rfl ?_
      refine J_iconst (pc := 35) X (v := 1) (by decide) dX13_safe_35 ?_
      refine J_iload_n (pc := 36) X (j := 1) (i := 1) rfl rfl dX13_safe_36 ?_
      refine J_ishl (pc := 37) X dX13_safe_37 ?_
      refine J_icmp_eq (pc := 38) (tgt := 43) X dX13_safe_38 rfl (fun c10 => ?_) (fun c10 => ?_)
      · have hq := ite_t hq c10
        refine J_iinc (pc := 43) X (j := 2) (v := 1) (L' := [(2, .inl (x2 + 1)), (0, .inr (.inr 155)), (1, .inl x1)]) rfl (by decide) (by decide) rfl dX13_safe_43 ?_
        refine J_goto (pc := 46) X (tgt := 16) dX13_safe_46 rfl ?_
        refine J_sub [1, 2, 0] rfl ?_
        exact hself _ _ _ _ hq
      · have hq := ite_f hq c10
        refine J_iconst (pc := 41) X (v := (-1)) (by decide) dX13_safe_41 ?_
        refine J_istore_n (pc := 42) X (L' := [(1, .inl (-1)), (0, .inr (.inr 155)), (2, .inl x2)]) (i := 1) rfl (by decide) rfl dX13_safe_42 ?_
        refine J_iinc (pc := 43) X (j := 2) (v := 1) (L' := [(2, .inl (x2 + 1)), (1, .inl (-1)), (0, .inr (.inr 155))]) rfl (by decide) (by decide) rfl dX13_safe_43 ?_
        refine J_goto (pc := 46) X (tgt := 16) dX13_safe_46 rfl ?_
        refine J_sub [2, 1, 0] rfl ?_
        exact hself _ _ _ _ hq
theorem tL_X13_safe_16 {κ : Kx} (X : OK κ cX13_safe 3 (some .int) "StruckWordsModel" 5) (k49 : Int32 → Hp → Option (Int32 × Hp)) (N : Nat) (x1 : Int32) (x2 : Int32) (h : Hp) (q : (Int32 × Hp)) (hk49 : ∀ (x1 : Int32) (h : Hp) (q : (Int32 × Hp)), k49 x1 h = some q → J κ 49 [(1, .inl x1)] [] h (some (.inl q.1), q.2)) (hq : itr3 (F_X13_safe_16 k49) N x1 x2 h = some q) : J κ 16 [(0, .inr (.inr 155)), (1, .inl x1), (2, .inl x2)] [] h (some (.inl q.1), q.2) :=
  itr3_ind (fun self hs x1 x2 h q hq => tF_X13_safe_16 X k49 self x1 x2 h q hk49 hs hq) N x1 x2 h q hq
theorem tf_X13_safe {κ : Kx} (X : OK κ cX13_safe 3 (some .int) "StruckWordsModel" 5) (h : Hp) (q : (Int32 × Hp)) (hq : f_X13_safe h = some q) : J κ 0 [(0, .inr (.inr 155))] [] h (some (.inl q.1), q.2) := by
  delta f_X13_safe at hq
  refine J_aload_n (pc := 0) X (j := 0) (i := 0) rfl rfl dX13_safe_0 ?_
  refine J_iconst (pc := 1) X (v := 0) (by decide) dX13_safe_1 ?_
  refine J_putI (pc := 2) X ly155 fp_13_1 dX13_safe_2 ?_
  refine J_ltH hq (fun h1 hq => ?_)
  refine J_aload_n (pc := 5) X (j := 0) (i := 0) rfl rfl dX13_safe_5 ?_
  refine J_iconst (pc := 6) X (v := 1) (by decide) dX13_safe_6 ?_
  obtain ⟨v3, h2, hc, hq⟩ := bnd_e hq
  refine J_callV (pc := 7) (as := [.inl 1]) (st := []) (st2 := [.inl v3]) (r1 := (some (.inl v3), h2)) (h2 := h2) (ky := 4) X dX13_safe_7 ca_X13_textMeans ci_X13_textMeans cs_X13_textMeans ml_13_335 (by decide) ly155 rfl rfl (m_X13_textMeans _ _ _ hc) rfl rfl (Nat.le_of_ble_eq_true rfl) rfl rfl ?_
  obtain ⟨v5, h4, hc, hq⟩ := bnd_e hq
  refine J_callS (pc := 10) (as := [.inl v3]) (st := []) (st2 := [.inl v5]) (r1 := (some (.inl v5), h4)) (h2 := h4) (ky := 1) X dX13_safe_10 ca_X13_only cz_X13_only ml_13_345 (by decide) (m_X13_only _ _ _ hc) rfl rfl (Nat.le_of_ble_eq_true rfl) rfl rfl ?_
  refine J_istore_n (pc := 13) X (L' := [(1, .inl v5), (0, .inr (.inr 155))]) (i := 1) rfl (by decide) rfl dX13_safe_13 ?_
  refine J_iconst (pc := 14) X (v := 2) (by decide) dX13_safe_14 ?_
  refine J_istore_n (pc := 15) X (L' := [(2, .inl 2), (1, .inl v5), (0, .inr (.inr 155))]) (i := 2) rfl (by decide) rfl dX13_safe_15 ?_
  refine J_sub [2, 1, 0] rfl ?_
  refine tL_X13_safe_16 X _ N0 _ _ _ _ ?_ hq
  · intro v12 h11 q hq
    refine J_iload_n (pc := 49) X (j := 0) (i := 1) rfl rfl dX13_safe_49 ?_
    obtain rfl := Option.some.inj hq
    exact J_iret (pc := 50) X dX13_safe_50
theorem m_X13_safe (h : Hp) (q : (Int32 × Hp)) (hq : f_X13_safe  h = some q) : ∀ l w, CT l w yX13_safe cX13_safe 3 (some .int) 5 [.inr (.inr 155)] h (some (.inl q.1), q.2) :=
  CT_of (L0 := [(0, .inr (.inr 155))]) (by decide) rfl (Nat.le_of_ble_eq_true rfl) (fun κ X => tf_X13_safe X  h q  hq)
theorem tF_X13_common_4 {κ : Kx} (X : OK κ cX13_common 5 (some .int) "StruckWordsModel" 1) (k21 : Int32 → Hp → Option (Int32 × Hp)) (self : Int32 → Int32 → Hp → Option (Int32 × Hp)) (x2 : Int32) (x3 : Int32) (h : Hp) (q : (Int32 × Hp)) (hk21 : ∀ (x2 : Int32) (h : Hp) (q : (Int32 × Hp)), k21 x2 h = some q → J κ 21 [(2, .inl x2)] [] h (some (.inl q.1), q.2)) (hself : ∀ (x2 : Int32) (x3 : Int32) (h : Hp) (q : (Int32 × Hp)), self x2 x3 h = some q → J κ 4 [(2, .inl x2), (3, .inl x3)] [] h (some (.inl q.1), q.2)) (hq : F_X13_common_4 k21 self x2 x3 h = some q) : J κ 4 [(2, .inl x2), (3, .inl x3)] [] h (some (.inl q.1), q.2) := by
  delta F_X13_common_4 at hq
  refine J_iload_n (pc := 4) X (j := 1) (i := 3) rfl rfl dX13_common_4 ?_
  refine J_if_eq (pc := 5) (tgt := 21) X dX13_common_5 rfl (fun c1 => ?_) (fun c1 => ?_)
  · have hq := ite_t hq c1
    refine J_sub [0] rfl ?_
    exact hk21 _ _ _ hq
  · have hq := ite_f hq c1
    refine J_iload_n (pc := 8) X (j := 0) (i := 2) rfl rfl dX13_common_8 ?_
    refine J_iload_n (pc := 9) X (j := 1) (i := 3) rfl rfl dX13_common_9 ?_
    obtain ⟨g2, hq⟩ := gd hq
    refine J_irem (pc := 10) X (nz_ne g2) dX13_common_10 ?_
    refine J_ltI hq (fun v3 hq => ?_)
    refine J_istore (pc := 11) X (L' := [(4, .inl v3), (2, .inl x2), (3, .inl x3)]) (by decide) rfl dX13_common_11 ?_
    refine J_iload_n (pc := 13) X (j := 2) (i := 3) rfl rfl dX13_common_13 ?_
    refine J_istore_n (pc := 14) X (L' := [(2, .inl x3), (4, .inl v3), (3, .inl x3)]) (i := 2) rfl (by decide) rfl dX13_common_14 ?_
    refine J_iload (pc := 15) X (j := 1) rfl dX13_common_15 ?_
    refine J_istore_n (pc := 17) X (L' := [(3, .inl v3), (2, .inl x3), (4, .inl v3)]) (i := 3) rfl (by decide) rfl dX13_common_17 ?_
    refine J_goto (pc := 18) X (tgt := 4) dX13_common_18 rfl ?_
    refine J_sub [1, 0] rfl ?_
    exact hself _ _ _ _ hq
theorem tL_X13_common_4 {κ : Kx} (X : OK κ cX13_common 5 (some .int) "StruckWordsModel" 1) (k21 : Int32 → Hp → Option (Int32 × Hp)) (N : Nat) (x2 : Int32) (x3 : Int32) (h : Hp) (q : (Int32 × Hp)) (hk21 : ∀ (x2 : Int32) (h : Hp) (q : (Int32 × Hp)), k21 x2 h = some q → J κ 21 [(2, .inl x2)] [] h (some (.inl q.1), q.2)) (hq : itr3 (F_X13_common_4 k21) N x2 x3 h = some q) : J κ 4 [(2, .inl x2), (3, .inl x3)] [] h (some (.inl q.1), q.2) :=
  itr3_ind (fun self hs x2 x3 h q hq => tF_X13_common_4 X k21 self x2 x3 h q hk21 hs hq) N x2 x3 h q hq
theorem tf_X13_common {κ : Kx} (X : OK κ cX13_common 5 (some .int) "StruckWordsModel" 1) (x0 : Int32) (x1 : Int32) (h : Hp) (q : (Int32 × Hp)) (hq : f_X13_common x0 x1 h = some q) : J κ 0 [(0, .inl x0), (1, .inl x1)] [] h (some (.inl q.1), q.2) := by
  delta f_X13_common at hq
  refine J_iload_n (pc := 0) X (j := 0) (i := 0) rfl rfl dX13_common_0 ?_
  refine J_istore_n (pc := 1) X (L' := [(2, .inl x0), (0, .inl x0), (1, .inl x1)]) (i := 2) rfl (by decide) rfl dX13_common_1 ?_
  refine J_iload_n (pc := 2) X (j := 2) (i := 1) rfl rfl dX13_common_2 ?_
  refine J_istore_n (pc := 3) X (L' := [(3, .inl x1), (2, .inl x0), (0, .inl x0), (1, .inl x1)]) (i := 3) rfl (by decide) rfl dX13_common_3 ?_
  refine J_sub [1, 0] rfl ?_
  refine tL_X13_common_4 X _ N0 _ _ _ _ ?_ hq
  · intro v5 h4 q hq
    refine J_iload_n (pc := 21) X (j := 0) (i := 2) rfl rfl dX13_common_21 ?_
    obtain rfl := Option.some.inj hq
    exact J_iret (pc := 22) X dX13_common_22
theorem m_X13_common (x0 : Int32) (x1 : Int32) (h : Hp) (q : (Int32 × Hp)) (hq : f_X13_common x0 x1 h = some q) : ∀ l w, CT l w yX13_common cX13_common 5 (some .int) 1 [.inl x0, .inl x1] h (some (.inl q.1), q.2) :=
  CT_of (L0 := [(0, .inl x0), (1, .inl x1)]) (by decide) rfl (Nat.le_of_ble_eq_true rfl) (fun κ X => tf_X13_common X x0 x1 h q  hq)
theorem tB_X13_known_82 {κ : Kx} (X : OK κ cX13_known 6 (some .int) "StruckWordsModel" 5) (x1 : Int32) (x2 : Int32) (k108 : Int32 → Int32 → Hp → Option (Int32 × Hp)) (self : Int32 → Int32 → Int32 → Hp → Option (Int32 × Hp)) (x4 : Int32) (x5 : Int32) (t0 : Int32) (t1 : Int32) (h : Hp) (q : (Int32 × Hp)) (hk108 : ∀ (x3 : Int32) (x4 : Int32) (h : Hp) (q : (Int32 × Hp)), k108 x3 x4 h = some q → J κ 108 [(2, .inl x2), (3, .inl x3), (4, .inl x4)] [] h (some (.inl q.1), q.2)) (hself : ∀ (x3 : Int32) (x4 : Int32) (x5 : Int32) (h : Hp) (q : (Int32 × Hp)), self x3 x4 x5 h = some q → J κ 41 [(0, .inr (.inr 155)), (1, .inl x1), (2, .inl x2), (3, .inl x3), (4, .inl x4), (5, .inl x5)] [] h (some (.inl q.1), q.2)) (hq : B_X13_known_82 x1 x2 k108 self x4 x5 t0 t1 h = some q) : J κ 82 [(0, .inr (.inr 155)), (1, .inl x1), (2, .inl x2), (4, .inl x4), (5, .inl x5)] [.inl t0, .inl t1] h (some (.inl q.1), q.2) := by
  delta B_X13_known_82 at hq
  refine J_iadd (pc := 82) X dX13_known_82 ?_
  refine J_ltI hq (fun v11 hq => ?_)
  refine J_istore_n (pc := 83) X (L' := [(3, .inl v11), (0, .inr (.inr 155)), (1, .inl x1), (2, .inl x2), (4, .inl x4), (5, .inl x5)]) (i := 3) rfl (by decide) rfl dX13_known_83 ?_
  refine J_iload (pc := 84) X (j := 4) rfl dX13_known_84 ?_
  refine J_aload_n (pc := 86) X (j := 1) (i := 0) rfl rfl dX13_known_86 ?_
  refine J_getF (pc := 87) X (b := 157) ly155 fl_13_33 rfl dX13_known_87 ?_
  refine J_sipush (pc := 90) X (v := 432) (by decide) dX13_known_90 ?_
  refine J_iload (pc := 93) X (j := 5) rfl dX13_known_93 ?_
  refine J_iadd (pc := 95) X dX13_known_95 ?_
  refine J_iconst (pc := 96) X (v := 1) (by decide) dX13_known_96 ?_
  refine J_isub (pc := 97) X dX13_known_97 ?_
  obtain ⟨g12, hq⟩ := gd hq
  refine J_iaload (pc := 98) X ly157 g12 dX13_known_98 ?_
  refine J_iadd (pc := 99) X dX13_known_99 ?_
  refine J_ltI hq (fun v13 hq => ?_)
  refine J_istore (pc := 100) X (L' := [(4, .inl v13), (3, .inl v11), (0, .inr (.inr 155)), (1, .inl x1), (2, .inl x2), (5, .inl x5)]) (by decide) rfl dX13_known_100 ?_
  refine J_iinc (pc := 102) X (j := 5) (v := 1) (L' := [(5, .inl (x5 + 1)), (4, .inl v13), (3, .inl v11), (0, .inr (.inr 155)), (1, .inl x1), (2, .inl x2)]) rfl (by decide) (by decide) rfl dX13_known_102 ?_
  refine J_goto (pc := 105) X (tgt := 41) dX13_known_105 rfl ?_
  refine J_sub [3, 4, 5, 2, 1, 0] rfl ?_
  exact hself _ _ _ _ _ hq
theorem tF_X13_known_41 {κ : Kx} (X : OK κ cX13_known 6 (some .int) "StruckWordsModel" 5) (x1 : Int32) (x2 : Int32) (k108 : Int32 → Int32 → Hp → Option (Int32 × Hp)) (self : Int32 → Int32 → Int32 → Hp → Option (Int32 × Hp)) (x3 : Int32) (x4 : Int32) (x5 : Int32) (h : Hp) (q : (Int32 × Hp)) (hk108 : ∀ (x3 : Int32) (x4 : Int32) (h : Hp) (q : (Int32 × Hp)), k108 x3 x4 h = some q → J κ 108 [(2, .inl x2), (3, .inl x3), (4, .inl x4)] [] h (some (.inl q.1), q.2)) (hself : ∀ (x3 : Int32) (x4 : Int32) (x5 : Int32) (h : Hp) (q : (Int32 × Hp)), self x3 x4 x5 h = some q → J κ 41 [(0, .inr (.inr 155)), (1, .inl x1), (2, .inl x2), (3, .inl x3), (4, .inl x4), (5, .inl x5)] [] h (some (.inl q.1), q.2)) (hq : F_X13_known_41 x1 x2 k108 self x3 x4 x5 h = some q) : J κ 41 [(0, .inr (.inr 155)), (1, .inl x1), (2, .inl x2), (3, .inl x3), (4, .inl x4), (5, .inl x5)] [] h (some (.inl q.1), q.2) := by
  delta F_X13_known_41 at hq
  refine J_iload (pc := 41) X (j := 5) rfl dX13_known_41 ?_
  refine J_aload_n (pc := 43) X (j := 0) (i := 0) rfl rfl dX13_known_43 ?_
  refine J_getF (pc := 44) X (b := 157) ly155 fl_13_33 rfl dX13_known_44 ?_
  refine J_iconst (pc := 47) X (v := 3) (by decide) dX13_known_47 ?_
  refine J_iaload (pc := 48) X ly157 (by decide) dX13_known_48 ?_
  refine J_icmp_gt (pc := 49) (tgt := 108) X dX13_known_49 rfl (fun c7 => ?_) (fun c7 => ?_)
  · have hq := ite_t hq c7
    refine J_sub [2, 3, 4] rfl ?_
    exact hk108 _ _ _ _ hq
  · have hq := ite_f hq c7
    refine J_iload_n (pc := 52) X (j := 3) (i := 3) rfl rfl dX13_known_52 ?_
    refine J_aload_n (pc := 53) X (j := 0) (i := 0) rfl rfl dX13_known_53 ?_
    refine J_iload (pc := 54) X (j := 5) rfl dX13_known_54 ?_
    obtain ⟨v9, h8, hc, hq⟩ := bnd_e hq
    refine J_callV (pc := 56) (as := [.inl x5]) (st := [.inl x3]) (st2 := [.inl v9, .inl x3]) (r1 := (some (.inl v9), h8)) (h2 := h8) (ky := 4) X dX13_known_56 ca_X13_textMeans ci_X13_textMeans cs_X13_textMeans ml_13_335 (by decide) ly155 rfl rfl (m_X13_textMeans _ _ _ hc) rfl rfl (Nat.le_of_ble_eq_true rfl) rfl rfl ?_
    refine J_iconst (pc := 59) X (v := 1) (by decide) dX13_known_59 ?_
    refine J_iload_n (pc := 60) X (j := 1) (i := 1) rfl rfl dX13_known_60 ?_
    refine J_ishl (pc := 61) X dX13_known_61 ?_
    refine J_icmp_ne (pc := 62) (tgt := 81) X dX13_known_62 rfl (fun c10 => ?_) (fun c10 => ?_)
    · have hq := ite_f hq c10
      refine J_iconst (pc := 81) X (v := 0) (by decide) dX13_known_81 ?_
      refine J_sub [0, 1, 2, 4, 5] rfl ?_
      exact tB_X13_known_82 X _ _ _ _ _ _ _ _ _ _ hk108 hself hq
    · have hq := ite_t hq c10
      refine J_aload_n (pc := 65) X (j := 0) (i := 0) rfl rfl dX13_known_65 ?_
      refine J_getF (pc := 66) X (b := 157) ly155 fl_13_33 rfl dX13_known_66 ?_
      refine J_sipush (pc := 69) X (v := 432) (by decide) dX13_known_69 ?_
      refine J_iload (pc := 72) X (j := 5) rfl dX13_known_72 ?_
      refine J_iadd (pc := 74) X dX13_known_74 ?_
      refine J_iconst (pc := 75) X (v := 1) (by decide) dX13_known_75 ?_
      refine J_isub (pc := 76) X dX13_known_76 ?_
      obtain ⟨g14, hq⟩ := gd hq
      refine J_iaload (pc := 77) X ly157 g14 dX13_known_77 ?_
      refine J_goto (pc := 78) X (tgt := 82) dX13_known_78 rfl ?_
      refine J_sub [0, 1, 2, 4, 5] rfl ?_
      exact tB_X13_known_82 X _ _ _ _ _ _ _ _ _ _ hk108 hself hq
theorem tL_X13_known_41 {κ : Kx} (X : OK κ cX13_known 6 (some .int) "StruckWordsModel" 5) (x1 : Int32) (x2 : Int32) (k108 : Int32 → Int32 → Hp → Option (Int32 × Hp)) (N : Nat) (x3 : Int32) (x4 : Int32) (x5 : Int32) (h : Hp) (q : (Int32 × Hp)) (hk108 : ∀ (x3 : Int32) (x4 : Int32) (h : Hp) (q : (Int32 × Hp)), k108 x3 x4 h = some q → J κ 108 [(2, .inl x2), (3, .inl x3), (4, .inl x4)] [] h (some (.inl q.1), q.2)) (hq : itr4 (F_X13_known_41 x1 x2 k108) N x3 x4 x5 h = some q) : J κ 41 [(0, .inr (.inr 155)), (1, .inl x1), (2, .inl x2), (3, .inl x3), (4, .inl x4), (5, .inl x5)] [] h (some (.inl q.1), q.2) :=
  itr4_ind (fun self hs x3 x4 x5 h q hq => tF_X13_known_41 X x1 x2 k108 self x3 x4 x5 h q hk108 hs hq) N x3 x4 x5 h q hq
theorem tB_X13_known_125 {κ : Kx} (X : OK κ cX13_known 6 (some .int) "StruckWordsModel" 5) (x3 : Int32) (x4 : Int32) (t0 : Int32) (h : Hp) (q : (Int32 × Hp)) (hq : B_X13_known_125 x3 x4 t0 h = some q) : J κ 125 [(3, .inl x3), (4, .inl x4)] [.inl t0] h (some (.inl q.1), q.2) := by
  delta B_X13_known_125 at hq
  refine J_iload (pc := 125) X (j := 1) rfl dX13_known_125 ?_
  refine J_iload_n (pc := 127) X (j := 0) (i := 3) rfl rfl dX13_known_127 ?_
  obtain ⟨v21, h20, hc, hq⟩ := bnd_e hq
  refine J_callS (pc := 128) (as := [.inl x4, .inl x3]) (st := [.inl t0]) (st2 := [.inl v21, .inl t0]) (r1 := (some (.inl v21), h20)) (h2 := h20) (ky := 1) X dX13_known_128 ca_X13_common cz_X13_common ml_13_348 (by decide) (m_X13_common _ _ _ _ hc) rfl rfl (Nat.le_of_ble_eq_true rfl) rfl rfl ?_
  obtain ⟨g22, hq⟩ := gd hq
  refine J_idiv (pc := 131) X (nz_ne g22) dX13_known_131 ?_
  obtain rfl := Option.some.inj hq
  exact J_iret (pc := 132) X dX13_known_132
theorem tB_X13_known_25 {κ : Kx} (X : OK κ cX13_known 6 (some .int) "StruckWordsModel" 5) (x1 : Int32) (x2 : Int32) (t0 : Int32) (h : Hp) (q : (Int32 × Hp)) (hq : B_X13_known_25 x1 x2 t0 h = some q) : J κ 25 [(0, .inr (.inr 155)), (1, .inl x1), (2, .inl x2)] [.inl t0, .inr (.inr 155)] h (some (.inl q.1), q.2) := by
  delta B_X13_known_25 at hq
  obtain ⟨v5, h4, hc, hq⟩ := bnd_e hq
  refine J_callV (pc := 25) (as := [.inl t0]) (st := []) (st2 := [.inl v5]) (r1 := (some (.inl v5), h4)) (h2 := h4) (ky := 1) X dX13_known_25 ca_X13_throwsIf ci_X13_throwsIf cs_X13_throwsIf ml_13_275 (by decide) ly155 rfl rfl (m_X13_throwsIf _ _ _ hc) rfl rfl (Nat.le_of_ble_eq_true rfl) rfl rfl ?_
  refine J_if_eq (pc := 28) (tgt := 33) X dX13_known_28 rfl (fun c6 => ?_) (fun c6 => ?_)
  · have hq := ite_t hq c6
    refine J_iconst (pc := 33) X (v := 0) (by decide) dX13_known_33 ?_
    refine J_istore_n (pc := 34) X (L' := [(3, .inl 0), (0, .inr (.inr 155)), (1, .inl x1), (2, .inl x2)]) (i := 3) rfl (by decide) rfl dX13_known_34 ?_
    refine J_iconst (pc := 35) X (v := 0) (by decide) dX13_known_35 ?_
    refine J_istore (pc := 36) X (L' := [(4, .inl 0), (3, .inl 0), (0, .inr (.inr 155)), (1, .inl x1), (2, .inl x2)]) (by decide) rfl dX13_known_36 ?_
    refine J_iconst (pc := 38) X (v := 1) (by decide) dX13_known_38 ?_
    refine J_istore (pc := 39) X (L' := [(5, .inl 1), (4, .inl 0), (3, .inl 0), (0, .inr (.inr 155)), (1, .inl x1), (2, .inl x2)]) (by decide) rfl dX13_known_39 ?_
    refine J_sub [3, 4, 5, 2, 1, 0] rfl ?_
    refine tL_X13_known_41 X _ _ _ N0 _ _ _ _ _ ?_ hq
    · intro v16 v17 h15 q hq
      refine J_iload (pc := 108) X (j := 2) rfl dX13_known_108 ?_
      refine J_if_ne (pc := 110) (tgt := 115) X dX13_known_110 rfl (fun c18 => ?_) (fun c18 => ?_)
      · have hq := ite_f hq c18
        refine J_iload_n (pc := 115) X (j := 0) (i := 2) rfl rfl dX13_known_115 ?_
        refine J_if_ne (pc := 116) (tgt := 123) X dX13_known_116 rfl (fun c19 => ?_) (fun c19 => ?_)
        · have hq := ite_f hq c19
          refine J_iload (pc := 123) X (j := 2) rfl dX13_known_123 ?_
          refine J_sub [1, 2] rfl ?_
          exact tB_X13_known_125 X _ _ _ _ _ hq
        · have hq := ite_t hq c19
          refine J_iload_n (pc := 119) X (j := 1) (i := 3) rfl rfl dX13_known_119 ?_
          refine J_goto (pc := 120) X (tgt := 125) dX13_known_120 rfl ?_
          refine J_sub [1, 2] rfl ?_
          exact tB_X13_known_125 X _ _ _ _ _ hq
      · have hq := ite_t hq c18
        refine J_iload_n (pc := 113) X (j := 0) (i := 2) rfl rfl dX13_known_113 ?_
        obtain rfl := Option.some.inj hq
        exact J_iret (pc := 114) X dX13_known_114
  · have hq := ite_f hq c6
    refine J_iconst (pc := 31) X (v := 0) (by decide) dX13_known_31 ?_
    obtain rfl := Option.some.inj hq
    exact J_iret (pc := 32) X dX13_known_32
theorem tf_X13_known {κ : Kx} (X : OK κ cX13_known 6 (some .int) "StruckWordsModel" 5) (x1 : Int32) (x2 : Int32) (h : Hp) (q : (Int32 × Hp)) (hq : f_X13_known x1 x2 h = some q) : J κ 0 [(0, .inr (.inr 155)), (1, .inl x1), (2, .inl x2)] [] h (some (.inl q.1), q.2) := by
  delta f_X13_known at hq
  refine J_aload_n (pc := 0) X (j := 0) (i := 0) rfl rfl dX13_known_0 ?_
  refine J_iload_n (pc := 1) X (j := 1) (i := 1) rfl rfl dX13_known_1 ?_
  refine J_iconst (pc := 2) X (v := 0) (by decide) dX13_known_2 ?_
  refine J_bipush (pc := 3) X (v := 7) (by decide) dX13_known_3 ?_
  obtain ⟨v2, h1, hc, hq⟩ := bnd_e hq
  refine J_callS (pc := 5) (as := [.inl x1, .inl 0, .inl 7]) (st := [.inr (.inr 155)]) (st2 := [.inl v2, .inr (.inr 155)]) (r1 := (some (.inl v2), h1)) (h2 := h1) (ky := 1) X dX13_known_5 ca_X13_isIn cz_X13_isIn ml_13_204 (by decide) (m_X13_isIn _ _ _ _ _ hc) rfl rfl (Nat.le_of_ble_eq_true rfl) rfl rfl ?_
  refine J_if_eq (pc := 8) (tgt := 20) X dX13_known_8 rfl (fun c3 => ?_) (fun c3 => ?_)
  · have hq := ite_t hq c3
    refine J_iconst (pc := 20) X (v := 1) (by decide) dX13_known_20 ?_
    refine J_goto (pc := 21) X (tgt := 25) dX13_known_21 rfl ?_
    exact tB_X13_known_25 X _ _ _ _ _ hq
  · have hq := ite_f hq c3
    refine J_iload_n (pc := 11) X (j := 2) (i := 2) rfl rfl dX13_known_11 ?_
    refine J_iconst (pc := 12) X (v := 0) (by decide) dX13_known_12 ?_
    refine J_iconst (pc := 13) X (v := 1) (by decide) dX13_known_13 ?_
    obtain ⟨v24, h23, hc, hq⟩ := bnd_e hq
    refine J_callS (pc := 14) (as := [.inl x2, .inl 0, .inl 1]) (st := [.inr (.inr 155)]) (st2 := [.inl v24, .inr (.inr 155)]) (r1 := (some (.inl v24), h23)) (h2 := h23) (ky := 1) X dX13_known_14 ca_X13_isIn cz_X13_isIn ml_13_204 (by decide) (m_X13_isIn _ _ _ _ _ hc) rfl rfl (Nat.le_of_ble_eq_true rfl) rfl rfl ?_
    refine J_if_ne (pc := 17) (tgt := 24) X dX13_known_17 rfl (fun c25 => ?_) (fun c25 => ?_)
    · have hq := ite_f hq c25
      refine J_iconst (pc := 24) X (v := 0) (by decide) dX13_known_24 ?_
      exact tB_X13_known_25 X _ _ _ _ _ hq
    · have hq := ite_t hq c25
      refine J_iconst (pc := 20) X (v := 1) (by decide) dX13_known_20 ?_
      refine J_goto (pc := 21) X (tgt := 25) dX13_known_21 rfl ?_
      exact tB_X13_known_25 X _ _ _ _ _ hq
theorem m_X13_known (x1 : Int32) (x2 : Int32) (h : Hp) (q : (Int32 × Hp)) (hq : f_X13_known x1 x2 h = some q) : ∀ l w, CT l w yX13_known cX13_known 6 (some .int) 5 [.inr (.inr 155), .inl x1, .inl x2] h (some (.inl q.1), q.2) :=
  CT_of (L0 := [(0, .inr (.inr 155)), (1, .inl x1), (2, .inl x2)]) (by decide) rfl (Nat.le_of_ble_eq_true rfl) (fun κ X => tf_X13_known X x1 x2 h q  hq)
theorem tF_X13_scans_43 {κ : Kx} (X : OK κ cX13_scans 6 (some .int) "StruckWordsModel" 4) (x1 : Int32) (x2 : Int32) (x3 : Int32) (k78 : Int32 → Hp → Option (Int32 × Hp)) (self : Int32 → Int32 → Hp → Option (Int32 × Hp)) (x4 : Int32) (x5 : Int32) (h : Hp) (q : (Int32 × Hp)) (hk78 : ∀ (x4 : Int32) (h : Hp) (q : (Int32 × Hp)), k78 x4 h = some q → J κ 78 [(0, .inr (.inr 155)), (1, .inl x1), (2, .inl x2), (3, .inl x3), (4, .inl x4)] [] h (some (.inl q.1), q.2)) (hself : ∀ (x4 : Int32) (x5 : Int32) (h : Hp) (q : (Int32 × Hp)), self x4 x5 h = some q → J κ 43 [(0, .inr (.inr 155)), (1, .inl x1), (2, .inl x2), (3, .inl x3), (4, .inl x4), (5, .inl x5)] [] h (some (.inl q.1), q.2)) (hq : F_X13_scans_43 x1 x2 x3 k78 self x4 x5 h = some q) : J κ 43 [(0, .inr (.inr 155)), (1, .inl x1), (2, .inl x2), (3, .inl x3), (4, .inl x4), (5, .inl x5)] [] h (some (.inl q.1), q.2) := by
  delta F_X13_scans_43 at hq
  refine J_iload (pc := 43) X (j := 5) rfl dX13_scans_43 ?_
  refine J_aload_n (pc := 45) X (j := 0) (i := 0) rfl rfl dX13_scans_45 ?_
  refine J_getI (pc := 46) X ly155 fl_13_303 dX13_scans_46 ?_
  refine J_icmp_ge (pc := 49) (tgt := 78) X dX13_scans_49 rfl (fun c7 => ?_) (fun c7 => ?_)
  · have hq := ite_t hq c7
    refine J_sub [0, 1, 2, 3, 4] rfl ?_
    exact hk78 _ _ _ hq
  · have hq := ite_f hq c7
    refine J_iload (pc := 52) X (j := 4) rfl dX13_scans_52 ?_
    refine J_aload_n (pc := 54) X (j := 0) (i := 0) rfl rfl dX13_scans_54 ?_
    refine J_getF (pc := 55) X (b := 157) ly155 fl_13_33 rfl dX13_scans_55 ?_
    refine J_bipush (pc := 58) X (v := 40) (by decide) dX13_scans_58 ?_
    refine J_aload_n (pc := 60) X (j := 0) (i := 0) rfl rfl dX13_scans_60 ?_
    refine J_getF (pc := 61) X (b := 162) ly155 fl_13_50 rfl dX13_scans_61 ?_
    refine J_iload (pc := 64) X (j := 5) rfl dX13_scans_64 ?_
    obtain ⟨g8, hq⟩ := gd hq
    refine J_iaload (pc := 66) X ly162 g8 dX13_scans_66 ?_
    refine J_iadd (pc := 67) X dX13_scans_67 ?_
    obtain ⟨g9, hq⟩ := gd hq
    refine J_iaload (pc := 68) X ly157 g9 dX13_scans_68 ?_
    refine J_iadd (pc := 69) X dX13_scans_69 ?_
    refine J_ltI hq (fun v10 hq => ?_)
    refine J_istore (pc := 70) X (L' := [(4, .inl v10), (0, .inr (.inr 155)), (1, .inl x1), (2, .inl x2), (3, .inl x3), (5, .inl x5)]) (by decide) rfl dX13_scans_70 ?_
    refine J_iinc (pc := 72) X (j := 5) (v := 1) (L' := [(5, .inl (x5 + 1)), (4, .inl v10), (0, .inr (.inr 155)), (1, .inl x1), (2, .inl x2), (3, .inl x3)]) rfl (by decide) (by decide) rfl dX13_scans_72 ?_
    refine J_goto (pc := 75) X (tgt := 43) dX13_scans_75 rfl ?_
    refine J_sub [2, 3, 4, 5, 1, 0] rfl ?_
    exact hself _ _ _ _ hq
theorem tL_X13_scans_43 {κ : Kx} (X : OK κ cX13_scans 6 (some .int) "StruckWordsModel" 4) (x1 : Int32) (x2 : Int32) (x3 : Int32) (k78 : Int32 → Hp → Option (Int32 × Hp)) (N : Nat) (x4 : Int32) (x5 : Int32) (h : Hp) (q : (Int32 × Hp)) (hk78 : ∀ (x4 : Int32) (h : Hp) (q : (Int32 × Hp)), k78 x4 h = some q → J κ 78 [(0, .inr (.inr 155)), (1, .inl x1), (2, .inl x2), (3, .inl x3), (4, .inl x4)] [] h (some (.inl q.1), q.2)) (hq : itr3 (F_X13_scans_43 x1 x2 x3 k78) N x4 x5 h = some q) : J κ 43 [(0, .inr (.inr 155)), (1, .inl x1), (2, .inl x2), (3, .inl x3), (4, .inl x4), (5, .inl x5)] [] h (some (.inl q.1), q.2) :=
  itr3_ind (fun self hs x4 x5 h q hq => tF_X13_scans_43 X x1 x2 x3 k78 self x4 x5 h q hk78 hs hq) N x4 x5 h q hq
theorem tF_X13_scans_22 {κ : Kx} (X : OK κ cX13_scans 6 (some .int) "StruckWordsModel" 4) (x1 : Int32) (k100 : Int32 → Hp → Option (Int32 × Hp)) (self : Int32 → Int32 → Hp → Option (Int32 × Hp)) (x2 : Int32) (x3 : Int32) (h : Hp) (q : (Int32 × Hp)) (hk100 : ∀ (x2 : Int32) (h : Hp) (q : (Int32 × Hp)), k100 x2 h = some q → J κ 100 [(2, .inl x2)] [] h (some (.inl q.1), q.2)) (hself : ∀ (x2 : Int32) (x3 : Int32) (h : Hp) (q : (Int32 × Hp)), self x2 x3 h = some q → J κ 22 [(0, .inr (.inr 155)), (1, .inl x1), (2, .inl x2), (3, .inl x3)] [] h (some (.inl q.1), q.2)) (hq : F_X13_scans_22 x1 k100 self x2 x3 h = some q) : J κ 22 [(0, .inr (.inr 155)), (1, .inl x1), (2, .inl x2), (3, .inl x3)] [] h (some (.inl q.1), q.2) := by
  delta F_X13_scans_22 at hq
  refine J_iload_n (pc := 22) X (j := 3) (i := 3) rfl rfl dX13_scans_22 ?_
  refine J_aload_n (pc := 23) X (j := 0) (i := 0) rfl rfl dX13_scans_23 ?_
  refine J_getF (pc := 24) X (b := 157) ly155 fl_13_33 rfl dX13_scans_24 ?_
  refine J_iconst (pc := 27) X (v := 3) (by decide) dX13_scans_27 ?_
  refine J_iaload (pc := 28) X ly157 (by decide) dX13_scans_28 ?_
  refine J_icmp_gt (pc := 29) (tgt := 100) X dX13_scans_29 rfl (fun c5 => ?_) (fun c5 => ?_)
  · have hq := ite_t hq c5
    refine J_sub [2] rfl ?_
    exact hk100 _ _ _ hq
  · have hq := ite_f hq c5
    refine J_aload_n (pc := 32) X (j := 0) (i := 0) rfl rfl dX13_scans_32 ?_
    refine J_iload_n (pc := 33) X (j := 3) (i := 3) rfl rfl dX13_scans_33 ?_
    obtain ⟨h6, hc, hq⟩ := bnv_e hq
    refine J_callV (pc := 34) (as := [.inl x3]) (st := []) (st2 := []) (r1 := (none, h6)) (h2 := h6) (ky := 3) X dX13_scans_34 ca_X13_leaveText ci_X13_leaveText cs_X13_leaveText ml_13_313 (by decide) ly155 rfl rfl (m_X13_leaveText _ _ _ hc) rfl rfl (Nat.le_of_ble_eq_true rfl) rfl rfl ?_
    refine J_iconst (pc := 37) X (v := 0) (by decide) dX13_scans_37 ?_
    refine J_istore (pc := 38) X (L' := [(4, .inl 0), (0, .inr (.inr 155)), (1, .inl x1), (2, .inl x2), (3, .inl x3)]) (by decide) rfl dX13_scans_38 ?_
    refine J_iconst (pc := 40) X (v := 0) (by decide) dX13_scans_40 ?_
    refine J_istore (pc := 41) X (L' := [(5, .inl 0), (4, .inl 0), (0, .inr (.inr 155)), (1, .inl x1), (2, .inl x2), (3, .inl x3)]) (by decide) rfl dX13_scans_41 ?_
    refine J_sub [2, 3, 4, 5, 1, 0] rfl ?_
    refine tL_X13_scans_43 X _ _ _ _ N0 _ _ _ _ ?_ hq
    · intro v12 h11 q hq
      refine J_iload_n (pc := 78) X (j := 2) (i := 2) rfl rfl dX13_scans_78 ?_
      refine J_iload (pc := 79) X (j := 4) rfl dX13_scans_79 ?_
      refine J_iload_n (pc := 81) X (j := 1) (i := 1) rfl rfl dX13_scans_81 ?_
      refine J_icmp_ne (pc := 82) (tgt := 91) X dX13_scans_82 rfl (fun c13 => ?_) (fun c13 => ?_)
      · have hq := ite_f hq c13
        refine J_iconst (pc := 91) X (v := 0) (by decide) dX13_scans_91 ?_
        refine J_ior (pc := 92) X dX13_scans_92 ?_
        refine J_ltI hq (fun v14 hq => ?_)
        refine J_istore_n (pc := 93) X (L' := [(2, .inl v14), (0, .inr (.inr 155)), (1, .inl x1), (3, .inl x3), (4, .inl v12)]) (i := 2) rfl (by decide) rfl dX13_scans_93 ?_
        refine J_iinc (pc := 94) X (j := 3) (v := 1) (L' := [(3, .inl (x3 + 1)), (2, .inl v14), (0, .inr (.inr 155)), (1, .inl x1), (4, .inl v12)]) rfl (by decide) (by decide) rfl dX13_scans_94 ?_
        refine J_goto (pc := 97) X (tgt := 22) dX13_scans_97 rfl ?_
        refine J_sub [2, 3, 1, 0] rfl ?_
        exact hself _ _ _ _ hq
      · have hq := ite_t hq c13
        refine J_iconst (pc := 85) X (v := 1) (by decide) dX13_scans_85 ?_
        refine J_iload_n (pc := 86) X (j := 3) (i := 3) rfl rfl dX13_scans_86 ?_
        refine J_ishl (pc := 87) X dX13_scans_87 ?_
        refine J_goto (pc := 88) X (tgt := 92) dX13_scans_88 rfl ?_
        refine J_ior (pc := 92) X dX13_scans_92 ?_
        refine J_ltI hq (fun v15 hq => ?_)
        refine J_istore_n (pc := 93) X (L' := [(2, .inl v15), (0, .inr (.inr 155)), (1, .inl x1), (3, .inl x3), (4, .inl v12)]) (i := 2) rfl (by decide) rfl dX13_scans_93 ?_
        refine J_iinc (pc := 94) X (j := 3) (v := 1) (L' := [(3, .inl (x3 + 1)), (2, .inl v15), (0, .inr (.inr 155)), (1, .inl x1), (4, .inl v12)]) rfl (by decide) (by decide) rfl dX13_scans_94 ?_
        refine J_goto (pc := 97) X (tgt := 22) dX13_scans_97 rfl ?_
        refine J_sub [2, 3, 1, 0] rfl ?_
        exact hself _ _ _ _ hq
theorem tL_X13_scans_22 {κ : Kx} (X : OK κ cX13_scans 6 (some .int) "StruckWordsModel" 4) (x1 : Int32) (k100 : Int32 → Hp → Option (Int32 × Hp)) (N : Nat) (x2 : Int32) (x3 : Int32) (h : Hp) (q : (Int32 × Hp)) (hk100 : ∀ (x2 : Int32) (h : Hp) (q : (Int32 × Hp)), k100 x2 h = some q → J κ 100 [(2, .inl x2)] [] h (some (.inl q.1), q.2)) (hq : itr3 (F_X13_scans_22 x1 k100) N x2 x3 h = some q) : J κ 22 [(0, .inr (.inr 155)), (1, .inl x1), (2, .inl x2), (3, .inl x3)] [] h (some (.inl q.1), q.2) :=
  itr3_ind (fun self hs x2 x3 h q hq => tF_X13_scans_22 X x1 k100 self x2 x3 h q hk100 hs hq) N x2 x3 h q hq
theorem tf_X13_scans {κ : Kx} (X : OK κ cX13_scans 6 (some .int) "StruckWordsModel" 4) (x1 : Int32) (h : Hp) (q : (Int32 × Hp)) (hq : f_X13_scans x1 h = some q) : J κ 0 [(0, .inr (.inr 155)), (1, .inl x1)] [] h (some (.inl q.1), q.2) := by
  delta f_X13_scans at hq
  refine J_aload_n (pc := 0) X (j := 0) (i := 0) rfl rfl dX13_scans_0 ?_
  refine J_iconst (pc := 1) X (v := 0) (by decide) dX13_scans_1 ?_
  refine J_putI (pc := 2) X ly155 fp_13_1 dX13_scans_2 ?_
  refine J_ltH hq (fun h1 hq => ?_)
  refine J_iload_n (pc := 5) X (j := 1) (i := 1) rfl rfl dX13_scans_5 ?_
  refine J_iconst (pc := 6) X (v := 0) (by decide) dX13_scans_6 ?_
  refine J_sipush (pc := 7) X (v := 216) (by decide) dX13_scans_7 ?_
  obtain ⟨v3, h2, hc, hq⟩ := bnd_e hq
  refine J_callS (pc := 10) (as := [.inl x1, .inl 0, .inl 216]) (st := []) (st2 := [.inl v3]) (r1 := (some (.inl v3), h2)) (h2 := h2) (ky := 1) X dX13_scans_10 ca_X13_isIn cz_X13_isIn ml_13_204 (by decide) (m_X13_isIn _ _ _ _ _ hc) rfl rfl (Nat.le_of_ble_eq_true rfl) rfl rfl ?_
  refine J_if_ne (pc := 13) (tgt := 18) X dX13_scans_13 rfl (fun c4 => ?_) (fun c4 => ?_)
  · have hq := ite_f hq c4
    refine J_iconst (pc := 18) X (v := 0) (by decide) dX13_scans_18 ?_
    refine J_istore_n (pc := 19) X (L' := [(2, .inl 0), (0, .inr (.inr 155)), (1, .inl x1)]) (i := 2) rfl (by decide) rfl dX13_scans_19 ?_
    refine J_iconst (pc := 20) X (v := 0) (by decide) dX13_scans_20 ?_
    refine J_istore_n (pc := 21) X (L' := [(3, .inl 0), (2, .inl 0), (0, .inr (.inr 155)), (1, .inl x1)]) (i := 3) rfl (by decide) rfl dX13_scans_21 ?_
    refine J_sub [2, 3, 1, 0] rfl ?_
    refine tL_X13_scans_22 X _ _ N0 _ _ _ _ ?_ hq
    · intro v17 h16 q hq
      refine J_iload_n (pc := 100) X (j := 0) (i := 2) rfl rfl dX13_scans_100 ?_
      obtain rfl := Option.some.inj hq
      exact J_iret (pc := 101) X dX13_scans_101
  · have hq := ite_t hq c4
    refine J_iconst (pc := 16) X (v := (-1)) (by decide) dX13_scans_16 ?_
    obtain rfl := Option.some.inj hq
    exact J_iret (pc := 17) X dX13_scans_17
theorem m_X13_scans (x1 : Int32) (h : Hp) (q : (Int32 × Hp)) (hq : f_X13_scans x1 h = some q) : ∀ l w, CT l w yX13_scans cX13_scans 6 (some .int) 4 [.inr (.inr 155), .inl x1] h (some (.inl q.1), q.2) :=
  CT_of (L0 := [(0, .inr (.inr 155)), (1, .inl x1)]) (by decide) rfl (Nat.le_of_ble_eq_true rfl) (fun κ X => tf_X13_scans X x1 h q  hq)
theorem tF_X13_letters_82 {κ : Kx} (X : OK κ cX13_letters 9 (some .long) "StruckWordsModel" 3) (x1 : Int32) (x4 : Int32) (x5 : Int64) (k139 : Int32 → Int32 → Hp → Option (Int64 × Hp)) (self : Int32 → Int32 → Int32 → Hp → Option (Int64 × Hp)) (x2 : Int32) (x3 : Int32) (x7 : Int32) (h : Hp) (q : (Int64 × Hp)) (hk139 : ∀ (x2 : Int32) (x3 : Int32) (h : Hp) (q : (Int64 × Hp)), k139 x2 x3 h = some q → J κ 139 [(0, .inr (.inr 155)), (1, .inl x1), (2, .inl x2), (3, .inl x3), (4, .inl x4)] [] h (some (.inr (.inl q.1)), q.2)) (hself : ∀ (x2 : Int32) (x3 : Int32) (x7 : Int32) (h : Hp) (q : (Int64 × Hp)), self x2 x3 x7 h = some q → J κ 82 [(0, .inr (.inr 155)), (1, .inl x1), (2, .inl x2), (3, .inl x3), (4, .inl x4), (5, .inr (.inl x5)), (7, .inl x7)] [] h (some (.inr (.inl q.1)), q.2)) (hq : F_X13_letters_82 x1 x4 x5 k139 self x2 x3 x7 h = some q) : J κ 82 [(0, .inr (.inr 155)), (1, .inl x1), (2, .inl x2), (3, .inl x3), (4, .inl x4), (5, .inr (.inl x5)), (7, .inl x7)] [] h (some (.inr (.inl q.1)), q.2) := by
  delta F_X13_letters_82 at hq
  refine J_iload (pc := 82) X (j := 6) rfl dX13_letters_82 ?_
  refine J_if_lt (pc := 84) (tgt := 139) X dX13_letters_84 rfl (fun c11 => ?_) (fun c11 => ?_)
  · have hq := ite_t hq c11
    refine J_sub [0, 1, 2, 3, 4] rfl ?_
    exact hk139 _ _ _ _ hq
  · have hq := ite_f hq c11
    refine J_lload (pc := 87) X (j := 5) rfl dX13_letters_87 ?_
    refine J_iload (pc := 89) X (j := 6) rfl dX13_letters_89 ?_
    refine J_lshr (pc := 91) X dX13_letters_91 ?_
    refine J_ldc2 (pc := 92) X cl_13_318 dX13_letters_92 ?_
    refine J_land (pc := 95) X dX13_letters_95 ?_
    refine J_l2i (pc := 96) X dX13_letters_96 ?_
    refine J_ltI hq (fun v12 hq => ?_)
    refine J_istore (pc := 97) X (L' := [(8, .inl v12), (0, .inr (.inr 155)), (1, .inl x1), (2, .inl x2), (3, .inl x3), (4, .inl x4), (5, .inr (.inl x5)), (7, .inl x7)]) (by decide) rfl dX13_letters_97 ?_
    refine J_iload (pc := 99) X (j := 0) rfl dX13_letters_99 ?_
    refine J_if_ne (pc := 101) (tgt := 107) X dX13_letters_101 rfl (fun c13 => ?_) (fun c13 => ?_)
    · have hq := ite_f hq c13
      refine J_iinc (pc := 107) X (j := 3) (v := 1) (L' := [(2, .inl (x2 + 1)), (8, .inl v12), (0, .inr (.inr 155)), (1, .inl x1), (3, .inl x3), (4, .inl x4), (5, .inr (.inl x5)), (7, .inl x7)]) rfl (by decide) (by decide) rfl dX13_letters_107 ?_
      refine J_aload_n (pc := 110) X (j := 2) (i := 0) rfl rfl dX13_letters_110 ?_
      refine J_iload_n (pc := 111) X (j := 3) (i := 1) rfl rfl dX13_letters_111 ?_
      refine J_iload_n (pc := 112) X (j := 0) (i := 2) rfl rfl dX13_letters_112 ?_
      obtain ⟨v15, h14, hc, hq⟩ := bnd_e hq
      refine J_callV (pc := 113) (as := [.inl x1, .inl (x2 + 1)]) (st := []) (st2 := [.inl v15]) (r1 := (some (.inl v15), h14)) (h2 := h14) (ky := 1) X dX13_letters_113 ca_X13_isStruck ci_X13_isStruck cs_X13_isStruck ml_13_300 (by decide) ly155 rfl rfl (m_X13_isStruck _ _ _ _ hc) rfl rfl (Nat.le_of_ble_eq_true rfl) rfl rfl ?_
      refine J_if_eq (pc := 116) (tgt := 122) X dX13_letters_116 rfl (fun c16 => ?_) (fun c16 => ?_)
      · have hq := ite_t hq c16
        refine J_aload_n (pc := 122) X (j := 2) (i := 0) rfl rfl dX13_letters_122 ?_
        refine J_getF (pc := 123) X (b := 169) ly155 fl_13_75 rfl dX13_letters_123 ?_
        refine J_iload_n (pc := 126) X (j := 4) (i := 3) rfl rfl dX13_letters_126 ?_
        refine J_iload (pc := 127) X (j := 1) rfl dX13_letters_127 ?_
        obtain ⟨g17, hq⟩ := gd hq
        refine J_iastore (pc := 129) X ly169 g17 dX13_letters_129 ?_
        refine J_ltH hq (fun h18 hq => ?_)
        refine J_iinc (pc := 130) X (j := 4) (v := 1) (L' := [(3, .inl (x3 + 1)), (2, .inl (x2 + 1)), (8, .inl v12), (0, .inr (.inr 155)), (1, .inl x1), (4, .inl x4), (5, .inr (.inl x5)), (7, .inl x7)]) rfl (by decide) (by decide) rfl dX13_letters_130 ?_
        refine J_iinc (pc := 133) X (j := 7) (v := (-8)) (L' := [(7, .inl (x7 + (-8))), (3, .inl (x3 + 1)), (2, .inl (x2 + 1)), (8, .inl v12), (0, .inr (.inr 155)), (1, .inl x1), (4, .inl x4), (5, .inr (.inl x5))]) rfl (by decide) (by decide) rfl dX13_letters_133 ?_
        refine J_goto (pc := 136) X (tgt := 82) dX13_letters_136 rfl ?_
        refine J_sub [4, 5, 2, 1, 6, 7, 0] rfl ?_
        exact hself _ _ _ _ _ hq
      · have hq := ite_f hq c16
        refine J_goto (pc := 119) X (tgt := 133) dX13_letters_119 rfl ?_
        refine J_iinc (pc := 133) X (j := 7) (v := (-8)) (L' := [(7, .inl (x7 + (-8))), (2, .inl (x2 + 1)), (8, .inl v12), (0, .inr (.inr 155)), (1, .inl x1), (3, .inl x3), (4, .inl x4), (5, .inr (.inl x5))]) rfl (by decide) (by decide) rfl dX13_letters_133 ?_
        refine J_goto (pc := 136) X (tgt := 82) dX13_letters_136 rfl ?_
        refine J_sub [3, 4, 1, 5, 6, 7, 0] rfl ?_
        exact hself _ _ _ _ _ hq
    · have hq := ite_t hq c13
      refine J_goto (pc := 104) X (tgt := 133) dX13_letters_104 rfl ?_
      refine J_iinc (pc := 133) X (j := 7) (v := (-8)) (L' := [(7, .inl (x7 + (-8))), (8, .inl v12), (0, .inr (.inr 155)), (1, .inl x1), (2, .inl x2), (3, .inl x3), (4, .inl x4), (5, .inr (.inl x5))]) rfl (by decide) (by decide) rfl dX13_letters_133 ?_
      refine J_goto (pc := 136) X (tgt := 82) dX13_letters_136 rfl ?_
      refine J_sub [2, 3, 4, 5, 6, 7, 0] rfl ?_
      exact hself _ _ _ _ _ hq
theorem tL_X13_letters_82 {κ : Kx} (X : OK κ cX13_letters 9 (some .long) "StruckWordsModel" 3) (x1 : Int32) (x4 : Int32) (x5 : Int64) (k139 : Int32 → Int32 → Hp → Option (Int64 × Hp)) (N : Nat) (x2 : Int32) (x3 : Int32) (x7 : Int32) (h : Hp) (q : (Int64 × Hp)) (hk139 : ∀ (x2 : Int32) (x3 : Int32) (h : Hp) (q : (Int64 × Hp)), k139 x2 x3 h = some q → J κ 139 [(0, .inr (.inr 155)), (1, .inl x1), (2, .inl x2), (3, .inl x3), (4, .inl x4)] [] h (some (.inr (.inl q.1)), q.2)) (hq : itr4 (F_X13_letters_82 x1 x4 x5 k139) N x2 x3 x7 h = some q) : J κ 82 [(0, .inr (.inr 155)), (1, .inl x1), (2, .inl x2), (3, .inl x3), (4, .inl x4), (5, .inr (.inl x5)), (7, .inl x7)] [] h (some (.inr (.inl q.1)), q.2) :=
  itr4_ind (fun self hs x2 x3 x7 h q hq => tF_X13_letters_82 X x1 x4 x5 k139 self x2 x3 x7 h q hk139 hs hq) N x2 x3 x7 h q hq
theorem tF_X13_letters_44 {κ : Kx} (X : OK κ cX13_letters 9 (some .long) "StruckWordsModel" 3) (x1 : Int32) (k145 : Int32 → Hp → Option (Int64 × Hp)) (self : Int32 → Int32 → Int32 → Hp → Option (Int64 × Hp)) (x2 : Int32) (x3 : Int32) (x4 : Int32) (h : Hp) (q : (Int64 × Hp)) (hk145 : ∀ (x3 : Int32) (h : Hp) (q : (Int64 × Hp)), k145 x3 h = some q → J κ 145 [(0, .inr (.inr 155)), (3, .inl x3)] [] h (some (.inr (.inl q.1)), q.2)) (hself : ∀ (x2 : Int32) (x3 : Int32) (x4 : Int32) (h : Hp) (q : (Int64 × Hp)), self x2 x3 x4 h = some q → J κ 44 [(0, .inr (.inr 155)), (1, .inl x1), (2, .inl x2), (3, .inl x3), (4, .inl x4)] [] h (some (.inr (.inl q.1)), q.2)) (hq : F_X13_letters_44 x1 k145 self x2 x3 x4 h = some q) : J κ 44 [(0, .inr (.inr 155)), (1, .inl x1), (2, .inl x2), (3, .inl x3), (4, .inl x4)] [] h (some (.inr (.inl q.1)), q.2) := by
  delta F_X13_letters_44 at hq
  refine J_iload (pc := 44) X (j := 4) rfl dX13_letters_44 ?_
  refine J_aload_n (pc := 46) X (j := 0) (i := 0) rfl rfl dX13_letters_46 ?_
  refine J_getF (pc := 47) X (b := 157) ly155 fl_13_33 rfl dX13_letters_47 ?_
  refine J_sipush (pc := 50) X (v := 437) (by decide) dX13_letters_50 ?_
  refine J_iaload (pc := 53) X ly157 (by decide) dX13_letters_53 ?_
  refine J_icmp_ge (pc := 54) (tgt := 145) X dX13_letters_54 rfl (fun c7 => ?_) (fun c7 => ?_)
  · have hq := ite_t hq c7
    refine J_sub [0, 3] rfl ?_
    exact hk145 _ _ _ hq
  · have hq := ite_f hq c7
    refine J_aload_n (pc := 57) X (j := 0) (i := 0) rfl rfl dX13_letters_57 ?_
    refine J_getF (pc := 58) X (b := 159) ly155 fl_13_40 rfl dX13_letters_58 ?_
    refine J_bipush (pc := 61) X (v := 8) (by decide) dX13_letters_61 ?_
    refine J_aload_n (pc := 63) X (j := 0) (i := 0) rfl rfl dX13_letters_63 ?_
    refine J_getF (pc := 64) X (b := 157) ly155 fl_13_33 rfl dX13_letters_64 ?_
    refine J_sipush (pc := 67) X (v := 438) (by decide) dX13_letters_67 ?_
    refine J_iload (pc := 70) X (j := 4) rfl dX13_letters_70 ?_
    refine J_iadd (pc := 72) X dX13_letters_72 ?_
    obtain ⟨g8, hq⟩ := gd hq
    refine J_iaload (pc := 73) X ly157 g8 dX13_letters_73 ?_
    refine J_iadd (pc := 74) X dX13_letters_74 ?_
    obtain ⟨g9, hq⟩ := gd hq
    refine J_laload (pc := 75) X ly159 g9 dX13_letters_75 ?_
    refine J_ltL hq (fun v10 hq => ?_)
    refine J_lstore (pc := 76) X (L' := [(5, .inr (.inl v10)), (0, .inr (.inr 155)), (1, .inl x1), (2, .inl x2), (3, .inl x3), (4, .inl x4)]) (by decide) rfl dX13_letters_76 ?_
    refine J_bipush (pc := 78) X (v := 56) (by decide) dX13_letters_78 ?_
    refine J_istore (pc := 80) X (L' := [(7, .inl 56), (5, .inr (.inl v10)), (0, .inr (.inr 155)), (1, .inl x1), (2, .inl x2), (3, .inl x3), (4, .inl x4)]) (by decide) rfl dX13_letters_80 ?_
    refine J_sub [2, 3, 4, 5, 6, 1, 0] rfl ?_
    refine tL_X13_letters_82 X _ _ _ _ N0 _ _ _ _ _ ?_ hq
    · intro v20 v21 h19 q hq
      refine J_iinc (pc := 139) X (j := 4) (v := 1) (L' := [(4, .inl (x4 + 1)), (0, .inr (.inr 155)), (1, .inl x1), (2, .inl v20), (3, .inl v21)]) rfl (by decide) (by decide) rfl dX13_letters_139 ?_
      refine J_goto (pc := 142) X (tgt := 44) dX13_letters_142 rfl ?_
      refine J_sub [1, 2, 3, 4, 0] rfl ?_
      exact hself _ _ _ _ _ hq
theorem tL_X13_letters_44 {κ : Kx} (X : OK κ cX13_letters 9 (some .long) "StruckWordsModel" 3) (x1 : Int32) (k145 : Int32 → Hp → Option (Int64 × Hp)) (N : Nat) (x2 : Int32) (x3 : Int32) (x4 : Int32) (h : Hp) (q : (Int64 × Hp)) (hk145 : ∀ (x3 : Int32) (h : Hp) (q : (Int64 × Hp)), k145 x3 h = some q → J κ 145 [(0, .inr (.inr 155)), (3, .inl x3)] [] h (some (.inr (.inl q.1)), q.2)) (hq : itr4 (F_X13_letters_44 x1 k145) N x2 x3 x4 h = some q) : J κ 44 [(0, .inr (.inr 155)), (1, .inl x1), (2, .inl x2), (3, .inl x3), (4, .inl x4)] [] h (some (.inr (.inl q.1)), q.2) :=
  itr4_ind (fun self hs x2 x3 x4 h q hq => tF_X13_letters_44 X x1 k145 self x2 x3 x4 h q hk145 hs hq) N x2 x3 x4 h q hq
theorem tB_X13_letters_266 {κ : Kx} (X : OK κ cX13_letters 9 (some .long) "StruckWordsModel" 3) (x3 : Int32) (x4 : Int32) (x5 : Int64) (x7 : Int32) (k274 : Hp → Option (Int64 × Hp)) (self : Int32 → Hp → Option (Int64 × Hp)) (x8 : Int32) (t0 : Int64) (t1 : Int64) (t2 : Int32) (h : Hp) (q : (Int64 × Hp)) (hk274 : ∀ (h : Hp) (q : (Int64 × Hp)), k274 h = some q → J κ 274 [(0, .inr (.inr 155)), (3, .inl x3), (4, .inl x4), (5, .inr (.inl x5)), (7, .inl x7)] [] h (some (.inr (.inl q.1)), q.2)) (hself : ∀ (x8 : Int32) (h : Hp) (q : (Int64 × Hp)), self x8 h = some q → J κ 220 [(0, .inr (.inr 155)), (3, .inl x3), (4, .inl x4), (5, .inr (.inl x5)), (7, .inl x7), (8, .inl x8)] [] h (some (.inr (.inl q.1)), q.2)) (hq : B_X13_letters_266 x3 x4 x5 x7 k274 self x8 t0 t1 t2 h = some q) : J κ 266 [(0, .inr (.inr 155)), (3, .inl x3), (4, .inl x4), (5, .inr (.inl x5)), (7, .inl x7), (8, .inl x8)] [.inr (.inl t0), .inr (.inl t1), .inl t2, .inr (.inr 170)] h (some (.inr (.inl q.1)), q.2) := by
  delta B_X13_letters_266 at hq
  refine J_ladd (pc := 266) X dX13_letters_266 ?_
  obtain ⟨g36, hq⟩ := gd hq
  refine J_lastore (pc := 267) X ly170 g36 dX13_letters_267 ?_
  refine J_ltH hq (fun h37 hq => ?_)
  refine J_iinc (pc := 268) X (j := 5) (v := 1) (L' := [(8, .inl (x8 + 1)), (0, .inr (.inr 155)), (3, .inl x3), (4, .inl x4), (5, .inr (.inl x5)), (7, .inl x7)]) rfl (by decide) (by decide) rfl dX13_letters_268 ?_
  refine J_goto (pc := 271) X (tgt := 220) dX13_letters_271 rfl ?_
  refine J_sub [1, 2, 3, 4, 5, 0] rfl ?_
  exact hself _ _ _ hq
theorem tF_X13_letters_220 {κ : Kx} (X : OK κ cX13_letters 9 (some .long) "StruckWordsModel" 3) (x3 : Int32) (x4 : Int32) (x5 : Int64) (x7 : Int32) (k274 : Hp → Option (Int64 × Hp)) (self : Int32 → Hp → Option (Int64 × Hp)) (x8 : Int32) (h : Hp) (q : (Int64 × Hp)) (hk274 : ∀ (h : Hp) (q : (Int64 × Hp)), k274 h = some q → J κ 274 [(0, .inr (.inr 155)), (3, .inl x3), (4, .inl x4), (5, .inr (.inl x5)), (7, .inl x7)] [] h (some (.inr (.inl q.1)), q.2)) (hself : ∀ (x8 : Int32) (h : Hp) (q : (Int64 × Hp)), self x8 h = some q → J κ 220 [(0, .inr (.inr 155)), (3, .inl x3), (4, .inl x4), (5, .inr (.inl x5)), (7, .inl x7), (8, .inl x8)] [] h (some (.inr (.inl q.1)), q.2)) (hq : F_X13_letters_220 x3 x4 x5 x7 k274 self x8 h = some q) : J κ 220 [(0, .inr (.inr 155)), (3, .inl x3), (4, .inl x4), (5, .inr (.inl x5)), (7, .inl x7), (8, .inl x8)] [] h (some (.inr (.inl q.1)), q.2) := by
  delta F_X13_letters_220 at hq
  refine J_iload (pc := 220) X (j := 5) rfl dX13_letters_220 ?_
  refine J_aload_n (pc := 222) X (j := 0) (i := 0) rfl rfl dX13_letters_222 ?_
  refine J_getF (pc := 223) X (b := 157) ly155 fl_13_33 rfl dX13_letters_223 ?_
  refine J_iconst (pc := 226) X (v := 2) (by decide) dX13_letters_226 ?_
  refine J_iaload (pc := 227) X ly157 (by decide) dX13_letters_227 ?_
  refine J_icmp_ge (pc := 228) (tgt := 274) X dX13_letters_228 rfl (fun c32 => ?_) (fun c32 => ?_)
  · have hq := ite_t hq c32
    refine J_sub [0, 1, 2, 3, 4] rfl ?_
    exact hk274 _ _ hq
  · have hq := ite_f hq c32
    refine J_aload_n (pc := 231) X (j := 0) (i := 0) rfl rfl dX13_letters_231 ?_
    refine J_getF (pc := 232) X (b := 170) ly155 fl_13_78 rfl dX13_letters_232 ?_
    refine J_iload (pc := 235) X (j := 2) rfl dX13_letters_235 ?_
    refine J_dup2 (pc := 237) X rfl rfl dX13_letters_237 ?_
    obtain ⟨g33, hq⟩ := gd hq
    refine J_laload (pc := 238) X ly170 g33 dX13_letters_238 ?_
    refine J_aload_n (pc := 239) X (j := 0) (i := 0) rfl rfl dX13_letters_239 ?_
    refine J_getF (pc := 240) X (b := 159) ly155 fl_13_40 rfl dX13_letters_240 ?_
    refine J_bipush (pc := 243) X (v := 8) (by decide) dX13_letters_243 ?_
    refine J_iload (pc := 245) X (j := 5) rfl dX13_letters_245 ?_
    refine J_iadd (pc := 247) X dX13_letters_247 ?_
    obtain ⟨g34, hq⟩ := gd hq
    refine J_laload (pc := 248) X ly159 g34 dX13_letters_248 ?_
    refine J_lload (pc := 249) X (j := 3) rfl dX13_letters_249 ?_
    refine J_lcmp (pc := 251) X dX13_letters_251 ?_
    refine J_if_ne (pc := 252) (tgt := 265) X dX13_letters_252 rfl (fun c35 => ?_) (fun c35 => ?_)
    · have hq := ite_f hq c35
      refine J_lconst (pc := 265) X (v := 0) (by decide) dX13_letters_265 ?_
      exact tB_X13_letters_266 X _ _ _ _ _ _ _ _ _ _ _ _ hk274 hself hq
    · have hq := ite_t hq c35
      refine J_aload_n (pc := 255) X (j := 0) (i := 0) rfl rfl dX13_letters_255 ?_
      refine J_getF (pc := 256) X (b := 170) ly155 fl_13_78 rfl dX13_letters_256 ?_
      refine J_iload (pc := 259) X (j := 4) rfl dX13_letters_259 ?_
      obtain ⟨g38, hq⟩ := gd hq
      refine J_laload (pc := 261) X ly170 g38 dX13_letters_261 ?_
      refine J_goto (pc := 262) X (tgt := 266) dX13_letters_262 rfl ?_
      exact tB_X13_letters_266 X _ _ _ _ _ _ _ _ _ _ _ _ hk274 hself hq
theorem tL_X13_letters_220 {κ : Kx} (X : OK κ cX13_letters 9 (some .long) "StruckWordsModel" 3) (x3 : Int32) (x4 : Int32) (x5 : Int64) (x7 : Int32) (k274 : Hp → Option (Int64 × Hp)) (N : Nat) (x8 : Int32) (h : Hp) (q : (Int64 × Hp)) (hk274 : ∀ (h : Hp) (q : (Int64 × Hp)), k274 h = some q → J κ 274 [(0, .inr (.inr 155)), (3, .inl x3), (4, .inl x4), (5, .inr (.inl x5)), (7, .inl x7)] [] h (some (.inr (.inl q.1)), q.2)) (hq : itr2 (F_X13_letters_220 x3 x4 x5 x7 k274) N x8 h = some q) : J κ 220 [(0, .inr (.inr 155)), (3, .inl x3), (4, .inl x4), (5, .inr (.inl x5)), (7, .inl x7), (8, .inl x8)] [] h (some (.inr (.inl q.1)), q.2) :=
  itr2_ind (fun self hs x8 h q hq => tF_X13_letters_220 X x3 x4 x5 x7 k274 self x8 h q hk274 hs hq) N x8 h q hq
theorem tF_X13_letters_178 {κ : Kx} (X : OK κ cX13_letters 9 (some .long) "StruckWordsModel" 3) (x3 : Int32) (x4 : Int32) (k280 : Hp → Option (Int64 × Hp)) (self : Int64 → Int32 → Hp → Option (Int64 × Hp)) (x5 : Int64) (x7 : Int32) (h : Hp) (q : (Int64 × Hp)) (hk280 : ∀ (h : Hp) (q : (Int64 × Hp)), k280 h = some q → J κ 280 [(0, .inr (.inr 155)), (3, .inl x3), (4, .inl x4)] [] h (some (.inr (.inl q.1)), q.2)) (hself : ∀ (x5 : Int64) (x7 : Int32) (h : Hp) (q : (Int64 × Hp)), self x5 x7 h = some q → J κ 178 [(0, .inr (.inr 155)), (3, .inl x3), (4, .inl x4), (5, .inr (.inl x5)), (7, .inl x7)] [] h (some (.inr (.inl q.1)), q.2)) (hq : F_X13_letters_178 x3 x4 k280 self x5 x7 h = some q) : J κ 178 [(0, .inr (.inr 155)), (3, .inl x3), (4, .inl x4), (5, .inr (.inl x5)), (7, .inl x7)] [] h (some (.inr (.inl q.1)), q.2) := by
  delta F_X13_letters_178 at hq
  refine J_iload (pc := 178) X (j := 4) rfl dX13_letters_178 ?_
  refine J_if_lt (pc := 180) (tgt := 280) X dX13_letters_180 rfl (fun c28 => ?_) (fun c28 => ?_)
  · have hq := ite_t hq c28
    refine J_sub [0, 1, 2] rfl ?_
    exact hk280 _ _ hq
  · have hq := ite_f hq c28
    refine J_iload (pc := 183) X (j := 2) rfl dX13_letters_183 ?_
    refine J_iload (pc := 185) X (j := 4) rfl dX13_letters_185 ?_
    refine J_isub (pc := 187) X dX13_letters_187 ?_
    refine J_bipush (pc := 188) X (v := 6) (by decide) dX13_letters_188 ?_
    refine J_icmp_gt (pc := 190) (tgt := 280) X dX13_letters_190 rfl (fun c29 => ?_) (fun c29 => ?_)
    · have hq := ite_t hq c29
      refine J_sub [0, 1, 2] rfl ?_
      exact hk280 _ _ hq
    · have hq := ite_f hq c29
      refine J_lload (pc := 193) X (j := 3) rfl dX13_letters_193 ?_
      refine J_aload_n (pc := 195) X (j := 0) (i := 0) rfl rfl dX13_letters_195 ?_
      refine J_getF (pc := 196) X (b := 169) ly155 fl_13_75 rfl dX13_letters_196 ?_
      refine J_iload (pc := 199) X (j := 4) rfl dX13_letters_199 ?_
      obtain ⟨g30, hq⟩ := gd hq
      refine J_iaload (pc := 201) X ly169 g30 dX13_letters_201 ?_
      refine J_i2l (pc := 202) X dX13_letters_202 ?_
      refine J_bipush (pc := 203) X (v := 8) (by decide) dX13_letters_203 ?_
      refine J_iload (pc := 205) X (j := 2) rfl dX13_letters_205 ?_
      refine J_iconst (pc := 207) X (v := 1) (by decide) dX13_letters_207 ?_
      refine J_isub (pc := 208) X dX13_letters_208 ?_
      refine J_iload (pc := 209) X (j := 4) rfl dX13_letters_209 ?_
      refine J_isub (pc := 211) X dX13_letters_211 ?_
      refine J_imul (pc := 212) X dX13_letters_212 ?_
      refine J_lshl (pc := 213) X dX13_letters_213 ?_
      refine J_lor (pc := 214) X dX13_letters_214 ?_
      refine J_ltL hq (fun v31 hq => ?_)
      refine J_lstore (pc := 215) X (L' := [(5, .inr (.inl v31)), (0, .inr (.inr 155)), (3, .inl x3), (4, .inl x4), (7, .inl x7)]) (by decide) rfl dX13_letters_215 ?_
      refine J_iconst (pc := 217) X (v := 0) (by decide) dX13_letters_217 ?_
      refine J_istore (pc := 218) X (L' := [(8, .inl 0), (5, .inr (.inl v31)), (0, .inr (.inr 155)), (3, .inl x3), (4, .inl x4), (7, .inl x7)]) (by decide) rfl dX13_letters_218 ?_
      refine J_sub [2, 3, 4, 1, 5, 0] rfl ?_
      refine tL_X13_letters_220 X _ _ _ _ _ N0 _ _ _ ?_ hq
      · intro h39 q hq
        refine J_iinc (pc := 274) X (j := 4) (v := (-1)) (L' := [(7, .inl (x7 + (-1))), (0, .inr (.inr 155)), (3, .inl x3), (4, .inl x4), (5, .inr (.inl v31))]) rfl (by decide) (by decide) rfl dX13_letters_274 ?_
        refine J_goto (pc := 277) X (tgt := 178) dX13_letters_277 rfl ?_
        refine J_sub [1, 2, 3, 4, 0] rfl ?_
        exact hself _ _ _ _ hq
theorem tL_X13_letters_178 {κ : Kx} (X : OK κ cX13_letters 9 (some .long) "StruckWordsModel" 3) (x3 : Int32) (x4 : Int32) (k280 : Hp → Option (Int64 × Hp)) (N : Nat) (x5 : Int64) (x7 : Int32) (h : Hp) (q : (Int64 × Hp)) (hk280 : ∀ (h : Hp) (q : (Int64 × Hp)), k280 h = some q → J κ 280 [(0, .inr (.inr 155)), (3, .inl x3), (4, .inl x4)] [] h (some (.inr (.inl q.1)), q.2)) (hq : itr3 (F_X13_letters_178 x3 x4 k280) N x5 x7 h = some q) : J κ 178 [(0, .inr (.inr 155)), (3, .inl x3), (4, .inl x4), (5, .inr (.inl x5)), (7, .inl x7)] [] h (some (.inr (.inl q.1)), q.2) :=
  itr3_ind (fun self hs x5 x7 h q hq => tF_X13_letters_178 X x3 x4 k280 self x5 x7 h q hk280 hs hq) N x5 x7 h q hq
theorem tB_X13_letters_313 {κ : Kx} (X : OK κ cX13_letters 9 (some .long) "StruckWordsModel" 3) (x3 : Int32) (k320 : Hp → Option (Int64 × Hp)) (self : Int32 → Hp → Option (Int64 × Hp)) (x4 : Int32) (t0 : Int64) (t1 : Int32) (h : Hp) (q : (Int64 × Hp)) (hk320 : ∀ (h : Hp) (q : (Int64 × Hp)), k320 h = some q → J κ 320 [(0, .inr (.inr 155)), (3, .inl x3)] [] h (some (.inr (.inl q.1)), q.2)) (hself : ∀ (x4 : Int32) (h : Hp) (q : (Int64 × Hp)), self x4 h = some q → J κ 155 [(0, .inr (.inr 155)), (3, .inl x3), (4, .inl x4)] [] h (some (.inr (.inl q.1)), q.2)) (hq : B_X13_letters_313 x3 k320 self x4 t0 t1 h = some q) : J κ 313 [(0, .inr (.inr 155)), (3, .inl x3), (4, .inl x4)] [.inr (.inl t0), .inl t1, .inr (.inr 170)] h (some (.inr (.inl q.1)), q.2) := by
  delta B_X13_letters_313 at hq
  obtain ⟨g44, hq⟩ := gd hq
  refine J_lastore (pc := 313) X ly170 g44 dX13_letters_313 ?_
  refine J_ltH hq (fun h45 hq => ?_)
  refine J_iinc (pc := 314) X (j := 2) (v := 1) (L' := [(4, .inl (x4 + 1)), (0, .inr (.inr 155)), (3, .inl x3)]) rfl (by decide) (by decide) rfl dX13_letters_314 ?_
  refine J_goto (pc := 317) X (tgt := 155) dX13_letters_317 rfl ?_
  refine J_sub [1, 2, 0] rfl ?_
  exact hself _ _ _ hq
theorem tB_X13_letters_280 {κ : Kx} (X : OK κ cX13_letters 9 (some .long) "StruckWordsModel" 3) (x3 : Int32) (k320 : Hp → Option (Int64 × Hp)) (self : Int32 → Hp → Option (Int64 × Hp)) (x4 : Int32) (h : Hp) (q : (Int64 × Hp)) (hk320 : ∀ (h : Hp) (q : (Int64 × Hp)), k320 h = some q → J κ 320 [(0, .inr (.inr 155)), (3, .inl x3)] [] h (some (.inr (.inl q.1)), q.2)) (hself : ∀ (x4 : Int32) (h : Hp) (q : (Int64 × Hp)), self x4 h = some q → J κ 155 [(0, .inr (.inr 155)), (3, .inl x3), (4, .inl x4)] [] h (some (.inr (.inl q.1)), q.2)) (hq : B_X13_letters_280 x3 k320 self x4 h = some q) : J κ 280 [(0, .inr (.inr 155)), (3, .inl x3), (4, .inl x4)] [] h (some (.inr (.inl q.1)), q.2) := by
  delta B_X13_letters_280 at hq
  refine J_aload_n (pc := 280) X (j := 0) (i := 0) rfl rfl dX13_letters_280 ?_
  refine J_getF (pc := 281) X (b := 170) ly155 fl_13_78 rfl dX13_letters_281 ?_
  refine J_iload (pc := 284) X (j := 2) rfl dX13_letters_284 ?_
  refine J_aload_n (pc := 286) X (j := 0) (i := 0) rfl rfl dX13_letters_286 ?_
  refine J_getF (pc := 287) X (b := 170) ly155 fl_13_78 rfl dX13_letters_287 ?_
  refine J_iload (pc := 290) X (j := 2) rfl dX13_letters_290 ?_
  obtain ⟨g41, hq⟩ := gd hq
  refine J_laload (pc := 292) X ly170 g41 dX13_letters_292 ?_
  refine J_ldc2 (pc := 293) X cl_13_351 dX13_letters_293 ?_
  refine J_lcmp (pc := 296) X dX13_letters_296 ?_
  refine J_if_le (pc := 297) (tgt := 306) X dX13_letters_297 rfl (fun c42 => ?_) (fun c42 => ?_)
  · have hq := ite_t hq c42
    refine J_aload_n (pc := 306) X (j := 0) (i := 0) rfl rfl dX13_letters_306 ?_
    refine J_getF (pc := 307) X (b := 170) ly155 fl_13_78 rfl dX13_letters_307 ?_
    refine J_iload (pc := 310) X (j := 2) rfl dX13_letters_310 ?_
    obtain ⟨g43, hq⟩ := gd hq
    refine J_laload (pc := 312) X ly170 g43 dX13_letters_312 ?_
    exact tB_X13_letters_313 X _ _ _ _ _ _ _ _ hk320 hself hq
  · have hq := ite_f hq c42
    refine J_ldc2 (pc := 300) X cl_13_351 dX13_letters_300 ?_
    refine J_goto (pc := 303) X (tgt := 313) dX13_letters_303 rfl ?_
    exact tB_X13_letters_313 X _ _ _ _ _ _ _ _ hk320 hself hq
theorem tF_X13_letters_155 {κ : Kx} (X : OK κ cX13_letters 9 (some .long) "StruckWordsModel" 3) (x3 : Int32) (k320 : Hp → Option (Int64 × Hp)) (self : Int32 → Hp → Option (Int64 × Hp)) (x4 : Int32) (h : Hp) (q : (Int64 × Hp)) (hk320 : ∀ (h : Hp) (q : (Int64 × Hp)), k320 h = some q → J κ 320 [(0, .inr (.inr 155)), (3, .inl x3)] [] h (some (.inr (.inl q.1)), q.2)) (hself : ∀ (x4 : Int32) (h : Hp) (q : (Int64 × Hp)), self x4 h = some q → J κ 155 [(0, .inr (.inr 155)), (3, .inl x3), (4, .inl x4)] [] h (some (.inr (.inl q.1)), q.2)) (hq : F_X13_letters_155 x3 k320 self x4 h = some q) : J κ 155 [(0, .inr (.inr 155)), (3, .inl x3), (4, .inl x4)] [] h (some (.inr (.inl q.1)), q.2) := by
  delta F_X13_letters_155 at hq
  refine J_iload (pc := 155) X (j := 2) rfl dX13_letters_155 ?_
  refine J_iload_n (pc := 157) X (j := 1) (i := 3) rfl rfl dX13_letters_157 ?_
  refine J_icmp_gt (pc := 158) (tgt := 320) X dX13_letters_158 rfl (fun c25 => ?_) (fun c25 => ?_)
  · have hq := ite_t hq c25
    refine J_sub [0, 1] rfl ?_
    exact hk320 _ _ hq
  · have hq := ite_f hq c25
    refine J_aload_n (pc := 161) X (j := 0) (i := 0) rfl rfl dX13_letters_161 ?_
    refine J_getF (pc := 162) X (b := 170) ly155 fl_13_78 rfl dX13_letters_162 ?_
    refine J_iload (pc := 165) X (j := 2) rfl dX13_letters_165 ?_
    refine J_lconst (pc := 167) X (v := 0) (by decide) dX13_letters_167 ?_
    obtain ⟨g26, hq⟩ := gd hq
    refine J_lastore (pc := 168) X ly170 g26 dX13_letters_168 ?_
    refine J_ltH hq (fun h27 hq => ?_)
    refine J_lconst (pc := 169) X (v := 0) (by decide) dX13_letters_169 ?_
    refine J_lstore (pc := 170) X (L' := [(5, .inr (.inl 0)), (0, .inr (.inr 155)), (3, .inl x3), (4, .inl x4)]) (by decide) rfl dX13_letters_170 ?_
    refine J_iload (pc := 172) X (j := 3) rfl dX13_letters_172 ?_
    refine J_iconst (pc := 174) X (v := 1) (by decide) dX13_letters_174 ?_
    refine J_isub (pc := 175) X dX13_letters_175 ?_
    refine J_istore (pc := 176) X (L' := [(7, .inl (x4 - 1)), (5, .inr (.inl 0)), (0, .inr (.inr 155)), (3, .inl x3), (4, .inl x4)]) (by decide) rfl dX13_letters_176 ?_
    refine J_sub [2, 3, 4, 1, 0] rfl ?_
    refine tL_X13_letters_178 X _ _ _ N0 _ _ _ _ ?_ hq
    · intro h40 q hq
      exact tB_X13_letters_280 X _ _ _ _ _ _ hk320 hself hq
theorem tL_X13_letters_155 {κ : Kx} (X : OK κ cX13_letters 9 (some .long) "StruckWordsModel" 3) (x3 : Int32) (k320 : Hp → Option (Int64 × Hp)) (N : Nat) (x4 : Int32) (h : Hp) (q : (Int64 × Hp)) (hk320 : ∀ (h : Hp) (q : (Int64 × Hp)), k320 h = some q → J κ 320 [(0, .inr (.inr 155)), (3, .inl x3)] [] h (some (.inr (.inl q.1)), q.2)) (hq : itr2 (F_X13_letters_155 x3 k320) N x4 h = some q) : J κ 155 [(0, .inr (.inr 155)), (3, .inl x3), (4, .inl x4)] [] h (some (.inr (.inl q.1)), q.2) :=
  itr2_ind (fun self hs x4 h q hq => tF_X13_letters_155 X x3 k320 self x4 h q hk320 hs hq) N x4 h q hq
theorem tf_X13_letters {κ : Kx} (X : OK κ cX13_letters 9 (some .long) "StruckWordsModel" 3) (x1 : Int32) (h : Hp) (q : (Int64 × Hp)) (hq : f_X13_letters x1 h = some q) : J κ 0 [(0, .inr (.inr 155)), (1, .inl x1)] [] h (some (.inr (.inl q.1)), q.2) := by
  delta f_X13_letters at hq
  refine J_aload_n (pc := 0) X (j := 0) (i := 0) rfl rfl dX13_letters_0 ?_
  refine J_iconst (pc := 1) X (v := 0) (by decide) dX13_letters_1 ?_
  refine J_putI (pc := 2) X ly155 fp_13_1 dX13_letters_2 ?_
  refine J_ltH hq (fun h1 hq => ?_)
  refine J_aload_n (pc := 5) X (j := 0) (i := 0) rfl rfl dX13_letters_5 ?_
  refine J_iload_n (pc := 6) X (j := 1) (i := 1) rfl rfl dX13_letters_6 ?_
  obtain ⟨v3, h2, hc, hq⟩ := bnd_e hq
  refine J_callV (pc := 7) (as := [.inl x1]) (st := []) (st2 := [.inl v3]) (r1 := (some (.inl v3), h2)) (h2 := h2) (ky := 2) X dX13_letters_7 ca_X13_isBeginning ci_X13_isBeginning cs_X13_isBeginning ml_13_310 (by decide) ly155 rfl rfl (m_X13_isBeginning _ _ _ hc) rfl rfl (Nat.le_of_ble_eq_true rfl) rfl rfl ?_
  refine J_if_ne (pc := 10) (tgt := 17) X dX13_letters_10 rfl (fun c4 => ?_) (fun c4 => ?_)
  · have hq := ite_f hq c4
    refine J_aload_n (pc := 17) X (j := 0) (i := 0) rfl rfl dX13_letters_17 ?_
    refine J_aload_n (pc := 18) X (j := 0) (i := 0) rfl rfl dX13_letters_18 ?_
    refine J_getF (pc := 19) X (b := 157) ly155 fl_13_33 rfl dX13_letters_19 ?_
    refine J_iconst (pc := 22) X (v := 3) (by decide) dX13_letters_22 ?_
    refine J_iaload (pc := 23) X ly157 (by decide) dX13_letters_23 ?_
    refine J_putI (pc := 24) X ly155 fp_13_294 dX13_letters_24 ?_
    refine J_ltH hq (fun h5 hq => ?_)
    refine J_aload_n (pc := 27) X (j := 0) (i := 0) rfl rfl dX13_letters_27 ?_
    refine J_aload_n (pc := 28) X (j := 0) (i := 0) rfl rfl dX13_letters_28 ?_
    refine J_getF (pc := 29) X (b := 157) ly155 fl_13_33 rfl dX13_letters_29 ?_
    refine J_iconst (pc := 32) X (v := 4) (by decide) dX13_letters_32 ?_
    refine J_iaload (pc := 33) X ly157 (by decide) dX13_letters_33 ?_
    refine J_putI (pc := 34) X ly155 fp_13_297 dX13_letters_34 ?_
    refine J_ltH hq (fun h6 hq => ?_)
    refine J_iconst (pc := 37) X (v := 0) (by decide) dX13_letters_37 ?_
    refine J_istore_n (pc := 38) X (L' := [(2, .inl 0), (0, .inr (.inr 155)), (1, .inl x1)]) (i := 2) rfl (by decide) rfl dX13_letters_38 ?_
    refine J_iconst (pc := 39) X (v := 0) (by decide) dX13_letters_39 ?_
    refine J_istore_n (pc := 40) X (L' := [(3, .inl 0), (2, .inl 0), (0, .inr (.inr 155)), (1, .inl x1)]) (i := 3) rfl (by decide) rfl dX13_letters_40 ?_
    refine J_iconst (pc := 41) X (v := 0) (by decide) dX13_letters_41 ?_
    refine J_istore (pc := 42) X (L' := [(4, .inl 0), (3, .inl 0), (2, .inl 0), (0, .inr (.inr 155)), (1, .inl x1)]) (by decide) rfl dX13_letters_42 ?_
    refine J_sub [3, 4, 2, 1, 0] rfl ?_
    refine tL_X13_letters_44 X _ _ N0 _ _ _ _ _ ?_ hq
    · intro v23 h22 q hq
      refine J_aload_n (pc := 145) X (j := 0) (i := 0) rfl rfl dX13_letters_145 ?_
      refine J_getF (pc := 146) X (b := 170) ly155 fl_13_78 rfl dX13_letters_146 ?_
      refine J_iconst (pc := 149) X (v := 0) (by decide) dX13_letters_149 ?_
      refine J_lconst (pc := 150) X (v := 1) (by decide) dX13_letters_150 ?_
      refine J_lastore (pc := 151) X ly170 (by decide) dX13_letters_151 ?_
      refine J_ltH hq (fun h24 hq => ?_)
      refine J_iconst (pc := 152) X (v := 1) (by decide) dX13_letters_152 ?_
      refine J_istore (pc := 153) X (L' := [(4, .inl 1), (0, .inr (.inr 155)), (3, .inl v23)]) (by decide) rfl dX13_letters_153 ?_
      refine J_sub [1, 2, 0] rfl ?_
      refine tL_X13_letters_155 X _ _ N0 _ _ _ ?_ hq
      · intro h46 q hq
        refine J_aload_n (pc := 320) X (j := 0) (i := 0) rfl rfl dX13_letters_320 ?_
        refine J_getF (pc := 321) X (b := 170) ly155 fl_13_78 rfl dX13_letters_321 ?_
        refine J_iload_n (pc := 324) X (j := 1) (i := 3) rfl rfl dX13_letters_324 ?_
        obtain ⟨g47, hq⟩ := gd hq
        refine J_laload (pc := 325) X ly170 g47 dX13_letters_325 ?_
        obtain rfl := Option.some.inj hq
        exact J_lret (pc := 326) X dX13_letters_326
  · have hq := ite_t hq c4
    refine J_ldc2 (pc := 13) X cl_13_316 dX13_letters_13 ?_
    obtain rfl := Option.some.inj hq
    exact J_lret (pc := 16) X dX13_letters_16
theorem m_X13_letters (x1 : Int32) (h : Hp) (q : (Int64 × Hp)) (hq : f_X13_letters x1 h = some q) : ∀ l w, CT l w yX13_letters cX13_letters 9 (some .long) 3 [.inr (.inr 155), .inl x1] h (some (.inr (.inl q.1)), q.2) :=
  CT_of (L0 := [(0, .inr (.inr 155)), (1, .inl x1)]) (by decide) rfl (Nat.le_of_ble_eq_true rfl) (fun κ X => tf_X13_letters X x1 h q  hq)
theorem tF_X13_begin_19 {κ : Kx} (X : OK κ cX13_begin 3 (none) "StruckWordsModel" 1) (k49 : Hp → Option Hp) (self : Int32 → Hp → Option Hp) (x2 : Int32) (h : Hp) (q : Hp) (hk49 : ∀ (h : Hp) (q : Hp), k49 h = some q → J κ 49 [] [] h (none, q)) (hself : ∀ (x2 : Int32) (h : Hp) (q : Hp), self x2 h = some q → J κ 19 [(0, .inr (.inr 155)), (2, .inl x2)] [] h (none, q)) (hq : F_X13_begin_19 k49 self x2 h = some q) : J κ 19 [(0, .inr (.inr 155)), (2, .inl x2)] [] h (none, q) := by
  delta F_X13_begin_19 at hq
  refine J_iload_n (pc := 19) X (j := 1) (i := 2) rfl rfl dX13_begin_19 ?_
  refine J_aload_n (pc := 20) X (j := 0) (i := 0) rfl rfl dX13_begin_20 ?_
  refine J_getI (pc := 21) X ly155 fl_13_294 dX13_begin_21 ?_
  refine J_icmp_gt (pc := 24) (tgt := 49) X dX13_begin_24 rfl (fun c4 => ?_) (fun c4 => ?_)
  · have hq := ite_t hq c4
    refine J_sub [] rfl ?_
    exact hk49 _ _ hq
  · have hq := ite_f hq c4
    refine J_aload_n (pc := 27) X (j := 0) (i := 0) rfl rfl dX13_begin_27 ?_
    refine J_getF (pc := 28) X (b := 171) ly155 fl_13_81 rfl dX13_begin_28 ?_
    refine J_iload_n (pc := 31) X (j := 1) (i := 2) rfl rfl dX13_begin_31 ?_
    refine J_ldc2 (pc := 32) X cl_13_316 dX13_begin_32 ?_
    obtain ⟨g5, hq⟩ := gd hq
    refine J_lastore (pc := 35) X ly171 g5 dX13_begin_35 ?_
    refine J_ltH hq (fun h6 hq => ?_)
    refine J_aload_n (pc := 36) X (j := 0) (i := 0) rfl rfl dX13_begin_36 ?_
    refine J_getF (pc := 37) X (b := 175) ly155 fl_13_93 rfl dX13_begin_37 ?_
    refine J_iload_n (pc := 40) X (j := 1) (i := 2) rfl rfl dX13_begin_40 ?_
    refine J_iconst (pc := 41) X (v := 0) (by decide) dX13_begin_41 ?_
    obtain ⟨g7, hq⟩ := gd hq
    refine J_iastore (pc := 42) X ly175 g7 dX13_begin_42 ?_
    refine J_ltH hq (fun h8 hq => ?_)
    refine J_iinc (pc := 43) X (j := 1) (v := 1) (L' := [(2, .inl (x2 + 1)), (0, .inr (.inr 155))]) rfl (by decide) (by decide) rfl dX13_begin_43 ?_
    refine J_goto (pc := 46) X (tgt := 19) dX13_begin_46 rfl ?_
    refine J_sub [1, 0] rfl ?_
    exact hself _ _ _ hq
theorem tL_X13_begin_19 {κ : Kx} (X : OK κ cX13_begin 3 (none) "StruckWordsModel" 1) (k49 : Hp → Option Hp) (N : Nat) (x2 : Int32) (h : Hp) (q : Hp) (hk49 : ∀ (h : Hp) (q : Hp), k49 h = some q → J κ 49 [] [] h (none, q)) (hq : itr2 (F_X13_begin_19 k49) N x2 h = some q) : J κ 19 [(0, .inr (.inr 155)), (2, .inl x2)] [] h (none, q) :=
  itr2_ind (fun self hs x2 h q hq => tF_X13_begin_19 X k49 self x2 h q hk49 hs hq) N x2 h q hq
theorem tf_X13_begin {κ : Kx} (X : OK κ cX13_begin 3 (none) "StruckWordsModel" 1) (x1 : Int32) (h : Hp) (q : Hp) (hq : f_X13_begin x1 h = some q) : J κ 0 [(0, .inr (.inr 155)), (1, .inl x1)] [] h (none, q) := by
  delta f_X13_begin at hq
  refine J_aload_n (pc := 0) X (j := 0) (i := 0) rfl rfl dX13_begin_0 ?_
  refine J_iload_n (pc := 1) X (j := 1) (i := 1) rfl rfl dX13_begin_1 ?_
  refine J_putI (pc := 2) X ly155 fp_13_353 dX13_begin_2 ?_
  refine J_ltH hq (fun h1 hq => ?_)
  refine J_aload_n (pc := 5) X (j := 0) (i := 0) rfl rfl dX13_begin_5 ?_
  refine J_iconst (pc := 6) X (v := 0) (by decide) dX13_begin_6 ?_
  refine J_putI (pc := 7) X ly155 fp_13_356 dX13_begin_7 ?_
  refine J_ltH hq (fun h2 hq => ?_)
  refine J_aload_n (pc := 10) X (j := 0) (i := 0) rfl rfl dX13_begin_10 ?_
  refine J_getF (pc := 11) X (b := 173) ly155 fl_13_87 rfl dX13_begin_11 ?_
  refine J_iconst (pc := 14) X (v := 0) (by decide) dX13_begin_14 ?_
  refine J_iconst (pc := 15) X (v := 0) (by decide) dX13_begin_15 ?_
  refine J_iastore (pc := 16) X ly173 (by decide) dX13_begin_16 ?_
  refine J_ltH hq (fun h3 hq => ?_)
  refine J_iconst (pc := 17) X (v := 0) (by decide) dX13_begin_17 ?_
  refine J_istore_n (pc := 18) X (L' := [(2, .inl 0), (0, .inr (.inr 155)), (1, .inl x1)]) (i := 2) rfl (by decide) rfl dX13_begin_18 ?_
  refine J_sub [1, 0] rfl ?_
  refine tL_X13_begin_19 X _ N0 _ _ _ ?_ hq
  · intro h9 q hq
    obtain rfl := Option.some.inj hq
    exact J_vret (pc := 49) X dX13_begin_49
theorem m_X13_begin (x1 : Int32) (h : Hp) (q : Hp) (hq : f_X13_begin x1 h = some q) : ∀ l w, CT l w yX13_begin cX13_begin 3 (none) 1 [.inr (.inr 155), .inl x1] h (none, q) :=
  CT_of (L0 := [(0, .inr (.inr 155)), (1, .inl x1)]) (by decide) rfl (Nat.le_of_ble_eq_true rfl) (fun κ X => tf_X13_begin X x1 h q  hq)
theorem tB_X13_step_109 {κ : Kx} (X : OK κ cX13_step 5 (none) "StruckWordsModel" 2) (x1 : Int32) (k117 : Hp → Option Hp) (self : Int32 → Hp → Option Hp) (x2 : Int32) (t0 : Int32) (t1 : Int32) (t2 : Int32) (h : Hp) (q : Hp) (hk117 : ∀ (h : Hp) (q : Hp), k117 h = some q → J κ 117 [(0, .inr (.inr 155))] [] h (none, q)) (hself : ∀ (x2 : Int32) (h : Hp) (q : Hp), self x2 h = some q → J κ 12 [(0, .inr (.inr 155)), (1, .inl x1), (2, .inl x2)] [] h (none, q)) (hq : B_X13_step_109 x1 k117 self x2 t0 t1 t2 h = some q) : J κ 109 [(0, .inr (.inr 155)), (1, .inl x1), (2, .inl x2)] [.inl t0, .inl t1, .inl t2, .inr (.inr 175)] h (none, q) := by
  delta B_X13_step_109 at hq
  refine J_iadd (pc := 109) X dX13_step_109 ?_
  obtain ⟨g16, hq⟩ := gd hq
  refine J_iastore (pc := 110) X ly175 g16 dX13_step_110 ?_
  refine J_ltH hq (fun h17 hq => ?_)
  refine J_iinc (pc := 111) X (j := 2) (v := 1) (L' := [(2, .inl (x2 + 1)), (0, .inr (.inr 155)), (1, .inl x1)]) rfl (by decide) (by decide) rfl dX13_step_111 ?_
  refine J_goto (pc := 114) X (tgt := 12) dX13_step_114 rfl ?_
  refine J_sub [1, 2, 0] rfl ?_
  exact hself _ _ _ hq
theorem tB_X13_step_76 {κ : Kx} (X : OK κ cX13_step 5 (none) "StruckWordsModel" 2) (x1 : Int32) (k117 : Hp → Option Hp) (self : Int32 → Hp → Option Hp) (x2 : Int32) (x3 : Int32) (x4 : Int32) (t0 : Int64) (t1 : Int32) (h : Hp) (q : Hp) (hk117 : ∀ (h : Hp) (q : Hp), k117 h = some q → J κ 117 [(0, .inr (.inr 155))] [] h (none, q)) (hself : ∀ (x2 : Int32) (h : Hp) (q : Hp), self x2 h = some q → J κ 12 [(0, .inr (.inr 155)), (1, .inl x1), (2, .inl x2)] [] h (none, q)) (hq : B_X13_step_76 x1 k117 self x2 x3 x4 t0 t1 h = some q) : J κ 76 [(0, .inr (.inr 155)), (1, .inl x1), (2, .inl x2), (3, .inl x3), (4, .inl x4)] [.inr (.inl t0), .inl t1, .inr (.inr 171)] h (none, q) := by
  delta B_X13_step_76 at hq
  obtain ⟨g11, hq⟩ := gd hq
  refine J_lastore (pc := 76) X ly171 g11 dX13_step_76 ?_
  refine J_ltH hq (fun h12 hq => ?_)
  refine J_aload_n (pc := 77) X (j := 0) (i := 0) rfl rfl dX13_step_77 ?_
  refine J_getF (pc := 78) X (b := 175) ly155 fl_13_93 rfl dX13_step_78 ?_
  refine J_iload_n (pc := 81) X (j := 3) (i := 3) rfl rfl dX13_step_81 ?_
  refine J_bipush (pc := 82) X (v := 6) (by decide) dX13_step_82 ?_
  refine J_iadd (pc := 84) X dX13_step_84 ?_
  refine J_aload_n (pc := 85) X (j := 0) (i := 0) rfl rfl dX13_step_85 ?_
  refine J_getF (pc := 86) X (b := 175) ly155 fl_13_93 rfl dX13_step_86 ?_
  refine J_iload_n (pc := 89) X (j := 3) (i := 3) rfl rfl dX13_step_89 ?_
  obtain ⟨g13, hq⟩ := gd hq
  refine J_iaload (pc := 90) X ly175 g13 dX13_step_90 ?_
  refine J_iload (pc := 91) X (j := 4) rfl dX13_step_91 ?_
  refine J_if_eq (pc := 93) (tgt := 100) X dX13_step_93 rfl (fun c14 => ?_) (fun c14 => ?_)
  · have hq := ite_t hq c14
    refine J_aload_n (pc := 100) X (j := 0) (i := 0) rfl rfl dX13_step_100 ?_
    refine J_getF (pc := 101) X (b := 157) ly155 fl_13_33 rfl dX13_step_101 ?_
    refine J_bipush (pc := 104) X (v := 40) (by decide) dX13_step_104 ?_
    refine J_iload_n (pc := 106) X (j := 1) (i := 1) rfl rfl dX13_step_106 ?_
    refine J_iadd (pc := 107) X dX13_step_107 ?_
    obtain ⟨g15, hq⟩ := gd hq
    refine J_iaload (pc := 108) X ly157 g15 dX13_step_108 ?_
    refine J_sub [0, 1, 2] rfl ?_
    exact tB_X13_step_109 X _ _ _ _ _ _ _ _ _ hk117 hself hq
  · have hq := ite_f hq c14
    refine J_iconst (pc := 96) X (v := 0) (by decide) dX13_step_96 ?_
    refine J_goto (pc := 97) X (tgt := 109) dX13_step_97 rfl ?_
    refine J_sub [0, 1, 2] rfl ?_
    exact tB_X13_step_109 X _ _ _ _ _ _ _ _ _ hk117 hself hq
theorem tF_X13_step_12 {κ : Kx} (X : OK κ cX13_step 5 (none) "StruckWordsModel" 2) (x1 : Int32) (k117 : Hp → Option Hp) (self : Int32 → Hp → Option Hp) (x2 : Int32) (h : Hp) (q : Hp) (hk117 : ∀ (h : Hp) (q : Hp), k117 h = some q → J κ 117 [(0, .inr (.inr 155))] [] h (none, q)) (hself : ∀ (x2 : Int32) (h : Hp) (q : Hp), self x2 h = some q → J κ 12 [(0, .inr (.inr 155)), (1, .inl x1), (2, .inl x2)] [] h (none, q)) (hq : F_X13_step_12 x1 k117 self x2 h = some q) : J κ 12 [(0, .inr (.inr 155)), (1, .inl x1), (2, .inl x2)] [] h (none, q) := by
  delta F_X13_step_12 at hq
  refine J_iload_n (pc := 12) X (j := 2) (i := 2) rfl rfl dX13_step_12 ?_
  refine J_aload_n (pc := 13) X (j := 0) (i := 0) rfl rfl dX13_step_13 ?_
  refine J_getI (pc := 14) X ly155 fl_13_294 dX13_step_14 ?_
  refine J_icmp_gt (pc := 17) (tgt := 117) X dX13_step_17 rfl (fun c3 => ?_) (fun c3 => ?_)
  · have hq := ite_t hq c3
    refine J_sub [0] rfl ?_
    exact hk117 _ _ hq
  · have hq := ite_f hq c3
    refine J_bipush (pc := 20) X (v := 6) (by decide) dX13_step_20 ?_
    refine J_aload_n (pc := 22) X (j := 0) (i := 0) rfl rfl dX13_step_22 ?_
    refine J_getI (pc := 23) X ly155 fl_13_356 dX13_step_23 ?_
    refine J_imul (pc := 26) X dX13_step_26 ?_
    refine J_iload_n (pc := 27) X (j := 2) (i := 2) rfl rfl dX13_step_27 ?_
    refine J_iadd (pc := 28) X dX13_step_28 ?_
    refine J_ltI hq (fun v4 hq => ?_)
    refine J_istore_n (pc := 29) X (L' := [(3, .inl v4), (0, .inr (.inr 155)), (1, .inl x1), (2, .inl x2)]) (i := 3) rfl (by decide) rfl dX13_step_29 ?_
    refine J_aload_n (pc := 30) X (j := 1) (i := 0) rfl rfl dX13_step_30 ?_
    refine J_iload_n (pc := 31) X (j := 3) (i := 2) rfl rfl dX13_step_31 ?_
    refine J_aload_n (pc := 32) X (j := 1) (i := 0) rfl rfl dX13_step_32 ?_
    refine J_getI (pc := 33) X ly155 fl_13_356 dX13_step_33 ?_
    refine J_iconst (pc := 36) X (v := 1) (by decide) dX13_step_36 ?_
    refine J_iadd (pc := 37) X dX13_step_37 ?_
    obtain ⟨v6, h5, hc, hq⟩ := bnd_e hq
    refine J_callV (pc := 38) (as := [.inl x2, .inl ((h.1 155 43) + 1)]) (st := []) (st2 := [.inl v6]) (r1 := (some (.inl v6), h5)) (h2 := h5) (ky := 1) X dX13_step_38 ca_X13_isStruck ci_X13_isStruck cs_X13_isStruck ml_13_300 (by decide) ly155 rfl rfl (m_X13_isStruck _ _ _ _ hc) rfl rfl (Nat.le_of_ble_eq_true rfl) rfl rfl ?_
    refine J_istore (pc := 41) X (L' := [(4, .inl v6), (3, .inl v4), (0, .inr (.inr 155)), (1, .inl x1), (2, .inl x2)]) (by decide) rfl dX13_step_41 ?_
    refine J_aload_n (pc := 43) X (j := 2) (i := 0) rfl rfl dX13_step_43 ?_
    refine J_getF (pc := 44) X (b := 171) ly155 fl_13_81 rfl dX13_step_44 ?_
    refine J_iload_n (pc := 47) X (j := 1) (i := 3) rfl rfl dX13_step_47 ?_
    refine J_bipush (pc := 48) X (v := 6) (by decide) dX13_step_48 ?_
    refine J_iadd (pc := 50) X dX13_step_50 ?_
    refine J_iload (pc := 51) X (j := 0) rfl dX13_step_51 ?_
    refine J_if_eq (pc := 53) (tgt := 65) X dX13_step_53 rfl (fun c7 => ?_) (fun c7 => ?_)
    · have hq := ite_t hq c7
      refine J_aload_n (pc := 65) X (j := 2) (i := 0) rfl rfl dX13_step_65 ?_
      refine J_aload_n (pc := 66) X (j := 2) (i := 0) rfl rfl dX13_step_66 ?_
      refine J_getF (pc := 67) X (b := 171) ly155 fl_13_81 rfl dX13_step_67 ?_
      refine J_iload_n (pc := 70) X (j := 1) (i := 3) rfl rfl dX13_step_70 ?_
      obtain ⟨g8, hq⟩ := gd hq
      refine J_laload (pc := 71) X ly171 g8 dX13_step_71 ?_
      refine J_iload_n (pc := 72) X (j := 3) (i := 1) rfl rfl dX13_step_72 ?_
      obtain ⟨v10, h9, hc, hq⟩ := bnd_e hq
      refine J_callV (pc := 73) (as := [.inr (.inl (h5.2.1 171 (v4.toNatClampNeg))), .inl x1]) (st := [.inl (v4 + 6), .inr (.inr 171)]) (st2 := [.inr (.inl v10), .inl (v4 + 6), .inr (.inr 171)]) (r1 := (some (.inr (.inl v10)), h9)) (h2 := h9) (ky := 1) X dX13_step_73 ca_X13_comes ci_X13_comes cs_X13_comes ml_13_320 (by decide) ly155 rfl rfl (m_X13_comes _ _ _ _ hc) rfl rfl (Nat.le_of_ble_eq_true rfl) rfl rfl ?_
      refine J_sub [2, 3, 4, 1, 0] rfl ?_
      exact tB_X13_step_76 X _ _ _ _ _ _ _ _ _ _ hk117 hself hq
    · have hq := ite_f hq c7
      refine J_aload_n (pc := 56) X (j := 2) (i := 0) rfl rfl dX13_step_56 ?_
      refine J_getF (pc := 57) X (b := 171) ly155 fl_13_81 rfl dX13_step_57 ?_
      refine J_iload_n (pc := 60) X (j := 1) (i := 3) rfl rfl dX13_step_60 ?_
      obtain ⟨g18, hq⟩ := gd hq
      refine J_laload (pc := 61) X ly171 g18 dX13_step_61 ?_
      refine J_goto (pc := 62) X (tgt := 76) dX13_step_62 rfl ?_
      refine J_sub [2, 3, 4, 1, 0] rfl ?_
      exact tB_X13_step_76 X _ _ _ _ _ _ _ _ _ _ hk117 hself hq
theorem tL_X13_step_12 {κ : Kx} (X : OK κ cX13_step 5 (none) "StruckWordsModel" 2) (x1 : Int32) (k117 : Hp → Option Hp) (N : Nat) (x2 : Int32) (h : Hp) (q : Hp) (hk117 : ∀ (h : Hp) (q : Hp), k117 h = some q → J κ 117 [(0, .inr (.inr 155))] [] h (none, q)) (hq : itr2 (F_X13_step_12 x1 k117) N x2 h = some q) : J κ 12 [(0, .inr (.inr 155)), (1, .inl x1), (2, .inl x2)] [] h (none, q) :=
  itr2_ind (fun self hs x2 h q hq => tF_X13_step_12 X x1 k117 self x2 h q hk117 hs hq) N x2 h q hq
theorem tf_X13_step {κ : Kx} (X : OK κ cX13_step 5 (none) "StruckWordsModel" 2) (x1 : Int32) (h : Hp) (q : Hp) (hq : f_X13_step x1 h = some q) : J κ 0 [(0, .inr (.inr 155)), (1, .inl x1)] [] h (none, q) := by
  delta f_X13_step at hq
  refine J_aload_n (pc := 0) X (j := 0) (i := 0) rfl rfl dX13_step_0 ?_
  refine J_getF (pc := 1) X (b := 174) ly155 fl_13_90 rfl dX13_step_1 ?_
  refine J_aload_n (pc := 4) X (j := 0) (i := 0) rfl rfl dX13_step_4 ?_
  refine J_getI (pc := 5) X ly155 fl_13_356 dX13_step_5 ?_
  refine J_iload_n (pc := 8) X (j := 1) (i := 1) rfl rfl dX13_step_8 ?_
  obtain ⟨g1, hq⟩ := gd hq
  refine J_iastore (pc := 9) X ly174 g1 dX13_step_9 ?_
  refine J_ltH hq (fun h2 hq => ?_)
  refine J_iconst (pc := 10) X (v := 0) (by decide) dX13_step_10 ?_
  refine J_istore_n (pc := 11) X (L' := [(2, .inl 0), (0, .inr (.inr 155)), (1, .inl x1)]) (i := 2) rfl (by decide) rfl dX13_step_11 ?_
  refine J_sub [1, 2, 0] rfl ?_
  refine tL_X13_step_12 X _ _ N0 _ _ _ ?_ hq
  · intro h19 q hq
    refine J_aload_n (pc := 117) X (j := 0) (i := 0) rfl rfl dX13_step_117 ?_
    refine J_dup (pc := 118) X rfl dX13_step_118 ?_
    refine J_getI (pc := 119) X ly155 fl_13_356 dX13_step_119 ?_
    refine J_iconst (pc := 122) X (v := 1) (by decide) dX13_step_122 ?_
    refine J_iadd (pc := 123) X dX13_step_123 ?_
    refine J_putI (pc := 124) X ly155 fp_13_356 dX13_step_124 ?_
    refine J_ltH hq (fun h20 hq => ?_)
    obtain rfl := Option.some.inj hq
    exact J_vret (pc := 127) X dX13_step_127
theorem m_X13_step (x1 : Int32) (h : Hp) (q : Hp) (hq : f_X13_step x1 h = some q) : ∀ l w, CT l w yX13_step cX13_step 5 (none) 2 [.inr (.inr 155), .inl x1] h (none, q) :=
  CT_of (L0 := [(0, .inr (.inr 155)), (1, .inl x1)]) (by decide) rfl (Nat.le_of_ble_eq_true rfl) (fun κ X => tf_X13_step X x1 h q  hq)
theorem tF_X13_nextRow_21 {κ : Kx} (X : OK κ cX13_nextRow 2 (some .boolean) "StruckWordsModel" 3) (k90 : Hp → Option (Int32 × Hp)) (k105 : Hp → Option (Int32 × Hp)) (self : Hp → Option (Int32 × Hp)) (h : Hp) (q : (Int32 × Hp)) (hk90 : ∀ (h : Hp) (q : (Int32 × Hp)), k90 h = some q → J κ 90 [] [] h (some (.inl q.1), q.2)) (hk105 : ∀ (h : Hp) (q : (Int32 × Hp)), k105 h = some q → J κ 105 [] [] h (some (.inl q.1), q.2)) (hself : ∀ (h : Hp) (q : (Int32 × Hp)), self h = some q → J κ 21 [(0, .inr (.inr 155))] [] h (some (.inl q.1), q.2)) (hq : F_X13_nextRow_21 k90 k105 self h = some q) : J κ 21 [(0, .inr (.inr 155))] [] h (some (.inl q.1), q.2) := by
  delta F_X13_nextRow_21 at hq
  refine J_aload_n (pc := 21) X (j := 0) (i := 0) rfl rfl dX13_nextRow_21 ?_
  refine J_getI (pc := 22) X ly155 fl_13_356 dX13_nextRow_22 ?_
  refine J_if_lt (pc := 25) (tgt := 105) X dX13_nextRow_25 rfl (fun c2 => ?_) (fun c2 => ?_)
  · have hq := ite_t hq c2
    refine J_sub [] rfl ?_
    exact hk105 _ _ hq
  · have hq := ite_f hq c2
    refine J_aload_n (pc := 28) X (j := 0) (i := 0) rfl rfl dX13_nextRow_28 ?_
    refine J_getF (pc := 29) X (b := 173) ly155 fl_13_87 rfl dX13_nextRow_29 ?_
    refine J_aload_n (pc := 32) X (j := 0) (i := 0) rfl rfl dX13_nextRow_32 ?_
    refine J_getI (pc := 33) X ly155 fl_13_356 dX13_nextRow_33 ?_
    obtain ⟨g3, hq⟩ := gd hq
    refine J_iaload (pc := 36) X ly173 g3 dX13_nextRow_36 ?_
    refine J_ltI hq (fun v4 hq => ?_)
    refine J_istore_n (pc := 37) X (L' := [(1, .inl v4), (0, .inr (.inr 155))]) (i := 1) rfl (by decide) rfl dX13_nextRow_37 ?_
    refine J_aload_n (pc := 38) X (j := 1) (i := 0) rfl rfl dX13_nextRow_38 ?_
    refine J_getF (pc := 39) X (b := 173) ly155 fl_13_87 rfl dX13_nextRow_39 ?_
    refine J_aload_n (pc := 42) X (j := 1) (i := 0) rfl rfl dX13_nextRow_42 ?_
    refine J_getI (pc := 43) X ly155 fl_13_356 dX13_nextRow_43 ?_
    refine J_dup2 (pc := 46) X rfl rfl dX13_nextRow_46 ?_
    obtain ⟨g5, hq⟩ := gd hq
    refine J_iaload (pc := 47) X ly173 g5 dX13_nextRow_47 ?_
    refine J_iconst (pc := 48) X (v := 1) (by decide) dX13_nextRow_48 ?_
    refine J_iadd (pc := 49) X dX13_nextRow_49 ?_
    obtain ⟨g6, hq⟩ := gd hq
    refine J_iastore (pc := 50) X ly173 g6 dX13_nextRow_50 ?_
    refine J_ltH hq (fun h7 hq => ?_)
    refine J_iload_n (pc := 51) X (j := 0) (i := 1) rfl rfl dX13_nextRow_51 ?_
    refine J_aload_n (pc := 52) X (j := 1) (i := 0) rfl rfl dX13_nextRow_52 ?_
    refine J_getF (pc := 53) X (b := 157) ly155 fl_13_33 rfl dX13_nextRow_53 ?_
    refine J_iconst (pc := 56) X (v := 2) (by decide) dX13_nextRow_56 ?_
    refine J_iaload (pc := 57) X ly157 (by decide) dX13_nextRow_57 ?_
    refine J_icmp_lt (pc := 58) (tgt := 74) X dX13_nextRow_58 rfl (fun c8 => ?_) (fun c8 => ?_)
    · have hq := ite_t hq c8
      refine J_aload_n (pc := 74) X (j := 1) (i := 0) rfl rfl dX13_nextRow_74 ?_
      refine J_iload_n (pc := 75) X (j := 0) (i := 1) rfl rfl dX13_nextRow_75 ?_
      obtain ⟨h9, hc, hq⟩ := bnv_e hq
      refine J_callV (pc := 76) (as := [.inl v4]) (st := []) (st2 := []) (r1 := (none, h9)) (h2 := h9) (ky := 2) X dX13_nextRow_76 ca_X13_step ci_X13_step cs_X13_step ml_13_359 (by decide) ly155 rfl rfl (m_X13_step _ _ _ hc) rfl rfl (Nat.le_of_ble_eq_true rfl) rfl rfl ?_
      refine J_aload_n (pc := 79) X (j := 1) (i := 0) rfl rfl dX13_nextRow_79 ?_
      refine J_getI (pc := 80) X ly155 fl_13_356 dX13_nextRow_80 ?_
      refine J_aload_n (pc := 83) X (j := 1) (i := 0) rfl rfl dX13_nextRow_83 ?_
      refine J_getI (pc := 84) X ly155 fl_13_353 dX13_nextRow_84 ?_
      refine J_icmp_ne (pc := 87) (tgt := 92) X dX13_nextRow_87 rfl (fun c10 => ?_) (fun c10 => ?_)
      · have hq := ite_f hq c10
        refine J_aload_n (pc := 92) X (j := 1) (i := 0) rfl rfl dX13_nextRow_92 ?_
        refine J_getF (pc := 93) X (b := 173) ly155 fl_13_87 rfl dX13_nextRow_93 ?_
        refine J_aload_n (pc := 96) X (j := 1) (i := 0) rfl rfl dX13_nextRow_96 ?_
        refine J_getI (pc := 97) X ly155 fl_13_356 dX13_nextRow_97 ?_
        refine J_iconst (pc := 100) X (v := 0) (by decide) dX13_nextRow_100 ?_
        obtain ⟨g11, hq⟩ := gd hq
        refine J_iastore (pc := 101) X ly173 g11 dX13_nextRow_101 ?_
        refine J_ltH hq (fun h12 hq => ?_)
        refine J_goto (pc := 102) X (tgt := 21) dX13_nextRow_102 rfl ?_
        refine J_sub [1] rfl ?_
        exact hself _ _ hq
      · have hq := ite_t hq c10
        refine J_sub [] rfl ?_
        exact hk90 _ _ hq
    · have hq := ite_f hq c8
      refine J_aload_n (pc := 61) X (j := 1) (i := 0) rfl rfl dX13_nextRow_61 ?_
      refine J_dup (pc := 62) X rfl dX13_nextRow_62 ?_
      refine J_getI (pc := 63) X ly155 fl_13_356 dX13_nextRow_63 ?_
      refine J_iconst (pc := 66) X (v := 1) (by decide) dX13_nextRow_66 ?_
      refine J_isub (pc := 67) X dX13_nextRow_67 ?_
      refine J_putI (pc := 68) X ly155 fp_13_356 dX13_nextRow_68 ?_
      refine J_ltH hq (fun h13 hq => ?_)
      refine J_goto (pc := 71) X (tgt := 21) dX13_nextRow_71 rfl ?_
      refine J_sub [1] rfl ?_
      exact hself _ _ hq
theorem tL_X13_nextRow_21 {κ : Kx} (X : OK κ cX13_nextRow 2 (some .boolean) "StruckWordsModel" 3) (k90 : Hp → Option (Int32 × Hp)) (k105 : Hp → Option (Int32 × Hp)) (N : Nat) (h : Hp) (q : (Int32 × Hp)) (hk90 : ∀ (h : Hp) (q : (Int32 × Hp)), k90 h = some q → J κ 90 [] [] h (some (.inl q.1), q.2)) (hk105 : ∀ (h : Hp) (q : (Int32 × Hp)), k105 h = some q → J κ 105 [] [] h (some (.inl q.1), q.2)) (hq : itr1 (F_X13_nextRow_21 k90 k105) N h = some q) : J κ 21 [(0, .inr (.inr 155))] [] h (some (.inl q.1), q.2) :=
  itr1_ind (fun self hs  h q hq => tF_X13_nextRow_21 X k90 k105 self h q hk90 hk105 hs hq) N  h q hq
theorem tf_X13_nextRow {κ : Kx} (X : OK κ cX13_nextRow 2 (some .boolean) "StruckWordsModel" 3) (h : Hp) (q : (Int32 × Hp)) (hq : f_X13_nextRow h = some q) : J κ 0 [(0, .inr (.inr 155))] [] h (some (.inl q.1), q.2) := by
  delta f_X13_nextRow at hq
  refine J_aload_n (pc := 0) X (j := 0) (i := 0) rfl rfl dX13_nextRow_0 ?_
  refine J_getI (pc := 1) X ly155 fl_13_356 dX13_nextRow_1 ?_
  refine J_aload_n (pc := 4) X (j := 0) (i := 0) rfl rfl dX13_nextRow_4 ?_
  refine J_getI (pc := 5) X ly155 fl_13_353 dX13_nextRow_5 ?_
  refine J_icmp_ne (pc := 8) (tgt := 21) X dX13_nextRow_8 rfl (fun c1 => ?_) (fun c1 => ?_)
  · have hq := ite_f hq c1
    refine tL_X13_nextRow_21 X _ _ N0 _ _ ?_ ?_ hq
    · intro h14 q hq
      refine J_iconst (pc := 90) X (v := 1) (by decide) dX13_nextRow_90 ?_
      obtain rfl := Option.some.inj hq
      exact J_zret (pc := 91) X (by decide) dX13_nextRow_91
    · intro h15 q hq
      refine J_iconst (pc := 105) X (v := 0) (by decide) dX13_nextRow_105 ?_
      obtain rfl := Option.some.inj hq
      exact J_zret (pc := 106) X (by decide) dX13_nextRow_106
  · have hq := ite_t hq c1
    refine J_aload_n (pc := 11) X (j := 0) (i := 0) rfl rfl dX13_nextRow_11 ?_
    refine J_dup (pc := 12) X rfl dX13_nextRow_12 ?_
    refine J_getI (pc := 13) X ly155 fl_13_356 dX13_nextRow_13 ?_
    refine J_iconst (pc := 16) X (v := 1) (by decide) dX13_nextRow_16 ?_
    refine J_isub (pc := 17) X dX13_nextRow_17 ?_
    refine J_putI (pc := 18) X ly155 fp_13_356 dX13_nextRow_18 ?_
    refine J_ltH hq (fun h16 hq => ?_)
    refine tL_X13_nextRow_21 X _ _ N0 _ _ ?_ ?_ hq
    · intro h17 q hq
      refine J_iconst (pc := 90) X (v := 1) (by decide) dX13_nextRow_90 ?_
      obtain rfl := Option.some.inj hq
      exact J_zret (pc := 91) X (by decide) dX13_nextRow_91
    · intro h18 q hq
      refine J_iconst (pc := 105) X (v := 0) (by decide) dX13_nextRow_105 ?_
      obtain rfl := Option.some.inj hq
      exact J_zret (pc := 106) X (by decide) dX13_nextRow_106
theorem m_X13_nextRow (h : Hp) (q : (Int32 × Hp)) (hq : f_X13_nextRow  h = some q) : ∀ l w, CT l w yX13_nextRow cX13_nextRow 2 (some .boolean) 3 [.inr (.inr 155)] h (some (.inl q.1), q.2) :=
  CT_of (L0 := [(0, .inr (.inr 155))]) (by decide) rfl (Nat.le_of_ble_eq_true rfl) (fun κ X => tf_X13_nextRow X  h q  hq)
theorem tf_X13_meansNow {κ : Kx} (X : OK κ cX13_meansNow 2 (some .int) "StruckWordsModel" 2) (x1 : Int32) (h : Hp) (q : (Int32 × Hp)) (hq : f_X13_meansNow x1 h = some q) : J κ 0 [(0, .inr (.inr 155)), (1, .inl x1)] [] h (some (.inl q.1), q.2) := by
  delta f_X13_meansNow at hq
  refine J_aload_n (pc := 0) X (j := 0) (i := 0) rfl rfl dX13_meansNow_0 ?_
  refine J_aload_n (pc := 1) X (j := 0) (i := 0) rfl rfl dX13_meansNow_1 ?_
  refine J_getF (pc := 2) X (b := 171) ly155 fl_13_81 rfl dX13_meansNow_2 ?_
  refine J_bipush (pc := 5) X (v := 6) (by decide) dX13_meansNow_5 ?_
  refine J_aload_n (pc := 7) X (j := 0) (i := 0) rfl rfl dX13_meansNow_7 ?_
  refine J_getI (pc := 8) X ly155 fl_13_356 dX13_meansNow_8 ?_
  refine J_imul (pc := 11) X dX13_meansNow_11 ?_
  refine J_iload_n (pc := 12) X (j := 1) (i := 1) rfl rfl dX13_meansNow_12 ?_
  refine J_iadd (pc := 13) X dX13_meansNow_13 ?_
  obtain ⟨g1, hq⟩ := gd hq
  refine J_laload (pc := 14) X ly171 g1 dX13_meansNow_14 ?_
  obtain ⟨v3, h2, hc, hq⟩ := bnd_e hq
  refine J_callV (pc := 15) (as := [.inr (.inl (h.2.1 171 (((6 * (h.1 155 43)) + x1).toNatClampNeg)))]) (st := []) (st2 := [.inl v3]) (r1 := (some (.inl v3), h2)) (h2 := h2) (ky := 1) X dX13_meansNow_15 ca_X13_ends ci_X13_ends cs_X13_ends ml_13_324 (by decide) ly155 rfl rfl (m_X13_ends _ _ _ hc) rfl rfl (Nat.le_of_ble_eq_true rfl) rfl rfl ?_
  obtain rfl := Option.some.inj hq
  exact J_iret (pc := 18) X dX13_meansNow_18
theorem m_X13_meansNow (x1 : Int32) (h : Hp) (q : (Int32 × Hp)) (hq : f_X13_meansNow x1 h = some q) : ∀ l w, CT l w yX13_meansNow cX13_meansNow 2 (some .int) 2 [.inr (.inr 155), .inl x1] h (some (.inl q.1), q.2) :=
  CT_of (L0 := [(0, .inr (.inr 155)), (1, .inl x1)]) (by decide) rfl (Nat.le_of_ble_eq_true rfl) (fun κ X => tf_X13_meansNow X x1 h q  hq)
theorem tF_X13_meetsGoals_2 {κ : Kx} (X : OK κ cX13_meetsGoals 3 (some .boolean) "StruckWordsModel" 3) (k39 : Hp → Option (Int32 × Hp)) (k57 : Hp → Option (Int32 × Hp)) (k65 : Hp → Option (Int32 × Hp)) (self : Int32 → Hp → Option (Int32 × Hp)) (x1 : Int32) (h : Hp) (q : (Int32 × Hp)) (hk39 : ∀ (h : Hp) (q : (Int32 × Hp)), k39 h = some q → J κ 39 [] [] h (some (.inl q.1), q.2)) (hk57 : ∀ (h : Hp) (q : (Int32 × Hp)), k57 h = some q → J κ 57 [] [] h (some (.inl q.1), q.2)) (hk65 : ∀ (h : Hp) (q : (Int32 × Hp)), k65 h = some q → J κ 65 [] [] h (some (.inl q.1), q.2)) (hself : ∀ (x1 : Int32) (h : Hp) (q : (Int32 × Hp)), self x1 h = some q → J κ 2 [(0, .inr (.inr 155)), (1, .inl x1)] [] h (some (.inl q.1), q.2)) (hq : F_X13_meetsGoals_2 k39 k57 k65 self x1 h = some q) : J κ 2 [(0, .inr (.inr 155)), (1, .inl x1)] [] h (some (.inl q.1), q.2) := by
  delta F_X13_meetsGoals_2 at hq
  refine J_iload_n (pc := 2) X (j := 1) (i := 1) rfl rfl dX13_meetsGoals_2 ?_
  refine J_aload_n (pc := 3) X (j := 0) (i := 0) rfl rfl dX13_meetsGoals_3 ?_
  refine J_getI (pc := 4) X ly155 fl_13_294 dX13_meetsGoals_4 ?_
  refine J_icmp_gt (pc := 7) (tgt := 65) X dX13_meetsGoals_7 rfl (fun c1 => ?_) (fun c1 => ?_)
  · have hq := ite_t hq c1
    refine J_sub [] rfl ?_
    exact hk65 _ _ hq
  · have hq := ite_f hq c1
    refine J_aload_n (pc := 10) X (j := 0) (i := 0) rfl rfl dX13_meetsGoals_10 ?_
    refine J_iload_n (pc := 11) X (j := 1) (i := 1) rfl rfl dX13_meetsGoals_11 ?_
    obtain ⟨v3, h2, hc, hq⟩ := bnd_e hq
    refine J_callV (pc := 12) (as := [.inl x1]) (st := []) (st2 := [.inl v3]) (r1 := (some (.inl v3), h2)) (h2 := h2) (ky := 2) X dX13_meetsGoals_12 ca_X13_meansNow ci_X13_meansNow cs_X13_meansNow ml_13_362 (by decide) ly155 rfl rfl (m_X13_meansNow _ _ _ hc) rfl rfl (Nat.le_of_ble_eq_true rfl) rfl rfl ?_
    refine J_istore_n (pc := 15) X (L' := [(2, .inl v3), (0, .inr (.inr 155)), (1, .inl x1)]) (i := 2) rfl (by decide) rfl dX13_meetsGoals_15 ?_
    refine J_aload_n (pc := 16) X (j := 1) (i := 0) rfl rfl dX13_meetsGoals_16 ?_
    refine J_getF (pc := 17) X (b := 172) ly155 fl_13_84 rfl dX13_meetsGoals_17 ?_
    refine J_iload_n (pc := 20) X (j := 2) (i := 1) rfl rfl dX13_meetsGoals_20 ?_
    obtain ⟨g4, hq⟩ := gd hq
    refine J_iaload (pc := 21) X ly172 g4 dX13_meetsGoals_21 ?_
    refine J_bipush (pc := 22) X (v := 8) (by decide) dX13_meetsGoals_22 ?_
    refine J_icmp_ge (pc := 24) (tgt := 42) X dX13_meetsGoals_24 rfl (fun c5 => ?_) (fun c5 => ?_)
    · have hq := ite_t hq c5
      refine J_aload_n (pc := 42) X (j := 1) (i := 0) rfl rfl dX13_meetsGoals_42 ?_
      refine J_getF (pc := 43) X (b := 172) ly155 fl_13_84 rfl dX13_meetsGoals_43 ?_
      refine J_iload_n (pc := 46) X (j := 2) (i := 1) rfl rfl dX13_meetsGoals_46 ?_
      obtain ⟨g6, hq⟩ := gd hq
      refine J_iaload (pc := 47) X ly172 g6 dX13_meetsGoals_47 ?_
      refine J_bipush (pc := 48) X (v := 8) (by decide) dX13_meetsGoals_48 ?_
      refine J_icmp_ne (pc := 50) (tgt := 59) X dX13_meetsGoals_50 rfl (fun c7 => ?_) (fun c7 => ?_)
      · have hq := ite_f hq c7
        refine J_iinc (pc := 59) X (j := 2) (v := 1) (L' := [(1, .inl (x1 + 1)), (2, .inl v3), (0, .inr (.inr 155))]) rfl (by decide) (by decide) rfl dX13_meetsGoals_59 ?_
        refine J_goto (pc := 62) X (tgt := 2) dX13_meetsGoals_62 rfl ?_
        refine J_sub [2, 0] rfl ?_
        exact hself _ _ _ hq
      · have hq := ite_t hq c7
        refine J_iload_n (pc := 53) X (j := 0) (i := 2) rfl rfl dX13_meetsGoals_53 ?_
        refine J_if_eq (pc := 54) (tgt := 59) X dX13_meetsGoals_54 rfl (fun c8 => ?_) (fun c8 => ?_)
        · have hq := ite_t hq c8
          refine J_iinc (pc := 59) X (j := 2) (v := 1) (L' := [(1, .inl (x1 + 1)), (2, .inl v3), (0, .inr (.inr 155))]) rfl (by decide) (by decide) rfl dX13_meetsGoals_59 ?_
          refine J_goto (pc := 62) X (tgt := 2) dX13_meetsGoals_62 rfl ?_
          refine J_sub [2, 0] rfl ?_
          exact hself _ _ _ hq
        · have hq := ite_f hq c8
          refine J_sub [] rfl ?_
          exact hk57 _ _ hq
    · have hq := ite_f hq c5
      refine J_iload_n (pc := 27) X (j := 0) (i := 2) rfl rfl dX13_meetsGoals_27 ?_
      refine J_iconst (pc := 28) X (v := 1) (by decide) dX13_meetsGoals_28 ?_
      refine J_aload_n (pc := 29) X (j := 1) (i := 0) rfl rfl dX13_meetsGoals_29 ?_
      refine J_getF (pc := 30) X (b := 172) ly155 fl_13_84 rfl dX13_meetsGoals_30 ?_
      refine J_iload_n (pc := 33) X (j := 2) (i := 1) rfl rfl dX13_meetsGoals_33 ?_
      obtain ⟨g9, hq⟩ := gd hq
      refine J_iaload (pc := 34) X ly172 g9 dX13_meetsGoals_34 ?_
      refine J_ishl (pc := 35) X dX13_meetsGoals_35 ?_
      refine J_icmp_eq (pc := 36) (tgt := 59) X dX13_meetsGoals_36 rfl (fun c10 => ?_) (fun c10 => ?_)
      · have hq := ite_t hq c10
        refine J_iinc (pc := 59) X (j := 2) (v := 1) (L' := [(1, .inl (x1 + 1)), (2, .inl v3), (0, .inr (.inr 155))]) rfl (by decide) (by decide) rfl dX13_meetsGoals_59 ?_
        refine J_goto (pc := 62) X (tgt := 2) dX13_meetsGoals_62 rfl ?_
        refine J_sub [2, 0] rfl ?_
        exact hself _ _ _ hq
      · have hq := ite_f hq c10
        refine J_sub [] rfl ?_
        exact hk39 _ _ hq
theorem tL_X13_meetsGoals_2 {κ : Kx} (X : OK κ cX13_meetsGoals 3 (some .boolean) "StruckWordsModel" 3) (k39 : Hp → Option (Int32 × Hp)) (k57 : Hp → Option (Int32 × Hp)) (k65 : Hp → Option (Int32 × Hp)) (N : Nat) (x1 : Int32) (h : Hp) (q : (Int32 × Hp)) (hk39 : ∀ (h : Hp) (q : (Int32 × Hp)), k39 h = some q → J κ 39 [] [] h (some (.inl q.1), q.2)) (hk57 : ∀ (h : Hp) (q : (Int32 × Hp)), k57 h = some q → J κ 57 [] [] h (some (.inl q.1), q.2)) (hk65 : ∀ (h : Hp) (q : (Int32 × Hp)), k65 h = some q → J κ 65 [] [] h (some (.inl q.1), q.2)) (hq : itr2 (F_X13_meetsGoals_2 k39 k57 k65) N x1 h = some q) : J κ 2 [(0, .inr (.inr 155)), (1, .inl x1)] [] h (some (.inl q.1), q.2) :=
  itr2_ind (fun self hs x1 h q hq => tF_X13_meetsGoals_2 X k39 k57 k65 self x1 h q hk39 hk57 hk65 hs hq) N x1 h q hq
theorem tf_X13_meetsGoals {κ : Kx} (X : OK κ cX13_meetsGoals 3 (some .boolean) "StruckWordsModel" 3) (h : Hp) (q : (Int32 × Hp)) (hq : f_X13_meetsGoals h = some q) : J κ 0 [(0, .inr (.inr 155))] [] h (some (.inl q.1), q.2) := by
  delta f_X13_meetsGoals at hq
  refine J_iconst (pc := 0) X (v := 0) (by decide) dX13_meetsGoals_0 ?_
  refine J_istore_n (pc := 1) X (L' := [(1, .inl 0), (0, .inr (.inr 155))]) (i := 1) rfl (by decide) rfl dX13_meetsGoals_1 ?_
  refine J_sub [1, 0] rfl ?_
  refine tL_X13_meetsGoals_2 X _ _ _ N0 _ _ _ ?_ ?_ ?_ hq
  · intro h11 q hq
    refine J_goto (pc := 39) X (tgt := 57) dX13_meetsGoals_39 rfl ?_
    refine J_iconst (pc := 57) X (v := 0) (by decide) dX13_meetsGoals_57 ?_
    obtain rfl := Option.some.inj hq
    exact J_zret (pc := 58) X (by decide) dX13_meetsGoals_58
  · intro h12 q hq
    refine J_iconst (pc := 57) X (v := 0) (by decide) dX13_meetsGoals_57 ?_
    obtain rfl := Option.some.inj hq
    exact J_zret (pc := 58) X (by decide) dX13_meetsGoals_58
  · intro h13 q hq
    refine J_iconst (pc := 65) X (v := 1) (by decide) dX13_meetsGoals_65 ?_
    obtain rfl := Option.some.inj hq
    exact J_zret (pc := 66) X (by decide) dX13_meetsGoals_66
theorem m_X13_meetsGoals (h : Hp) (q : (Int32 × Hp)) (hq : f_X13_meetsGoals  h = some q) : ∀ l w, CT l w yX13_meetsGoals cX13_meetsGoals 3 (some .boolean) 3 [.inr (.inr 155)] h (some (.inl q.1), q.2) :=
  CT_of (L0 := [(0, .inr (.inr 155))]) (by decide) rfl (Nat.le_of_ble_eq_true rfl) (fun κ X => tf_X13_meetsGoals X  h q  hq)
theorem tF_X13_hasBeats_2 {κ : Kx} (X : OK κ cX13_hasBeats 3 (some .boolean) "StruckWordsModel" 1) (x1 : Int32) (k28 : Hp → Option (Int32 × Hp)) (k36 : Hp → Option (Int32 × Hp)) (self : Int32 → Hp → Option (Int32 × Hp)) (x2 : Int32) (h : Hp) (q : (Int32 × Hp)) (hk28 : ∀ (h : Hp) (q : (Int32 × Hp)), k28 h = some q → J κ 28 [] [] h (some (.inl q.1), q.2)) (hk36 : ∀ (h : Hp) (q : (Int32 × Hp)), k36 h = some q → J κ 36 [] [] h (some (.inl q.1), q.2)) (hself : ∀ (x2 : Int32) (h : Hp) (q : (Int32 × Hp)), self x2 h = some q → J κ 2 [(0, .inr (.inr 155)), (1, .inl x1), (2, .inl x2)] [] h (some (.inl q.1), q.2)) (hq : F_X13_hasBeats_2 x1 k28 k36 self x2 h = some q) : J κ 2 [(0, .inr (.inr 155)), (1, .inl x1), (2, .inl x2)] [] h (some (.inl q.1), q.2) := by
  delta F_X13_hasBeats_2 at hq
  refine J_iload_n (pc := 2) X (j := 2) (i := 2) rfl rfl dX13_hasBeats_2 ?_
  refine J_aload_n (pc := 3) X (j := 0) (i := 0) rfl rfl dX13_hasBeats_3 ?_
  refine J_getI (pc := 4) X ly155 fl_13_294 dX13_hasBeats_4 ?_
  refine J_icmp_gt (pc := 7) (tgt := 36) X dX13_hasBeats_7 rfl (fun c1 => ?_) (fun c1 => ?_)
  · have hq := ite_t hq c1
    refine J_sub [] rfl ?_
    exact hk36 _ _ hq
  · have hq := ite_f hq c1
    refine J_aload_n (pc := 10) X (j := 0) (i := 0) rfl rfl dX13_hasBeats_10 ?_
    refine J_getF (pc := 11) X (b := 175) ly155 fl_13_93 rfl dX13_hasBeats_11 ?_
    refine J_bipush (pc := 14) X (v := 6) (by decide) dX13_hasBeats_14 ?_
    refine J_aload_n (pc := 16) X (j := 0) (i := 0) rfl rfl dX13_hasBeats_16 ?_
    refine J_getI (pc := 17) X ly155 fl_13_356 dX13_hasBeats_17 ?_
    refine J_imul (pc := 20) X dX13_hasBeats_20 ?_
    refine J_iload_n (pc := 21) X (j := 2) (i := 2) rfl rfl dX13_hasBeats_21 ?_
    refine J_iadd (pc := 22) X dX13_hasBeats_22 ?_
    obtain ⟨g2, hq⟩ := gd hq
    refine J_iaload (pc := 23) X ly175 g2 dX13_hasBeats_23 ?_
    refine J_iload_n (pc := 24) X (j := 1) (i := 1) rfl rfl dX13_hasBeats_24 ?_
    refine J_icmp_eq (pc := 25) (tgt := 30) X dX13_hasBeats_25 rfl (fun c3 => ?_) (fun c3 => ?_)
    · have hq := ite_t hq c3
      refine J_iinc (pc := 30) X (j := 2) (v := 1) (L' := [(2, .inl (x2 + 1)), (0, .inr (.inr 155)), (1, .inl x1)]) rfl (by decide) (by decide) rfl dX13_hasBeats_30 ?_
      refine J_goto (pc := 33) X (tgt := 2) dX13_hasBeats_33 rfl ?_
      refine J_sub [1, 2, 0] rfl ?_
      exact hself _ _ _ hq
    · have hq := ite_f hq c3
      refine J_sub [] rfl ?_
      exact hk28 _ _ hq
theorem tL_X13_hasBeats_2 {κ : Kx} (X : OK κ cX13_hasBeats 3 (some .boolean) "StruckWordsModel" 1) (x1 : Int32) (k28 : Hp → Option (Int32 × Hp)) (k36 : Hp → Option (Int32 × Hp)) (N : Nat) (x2 : Int32) (h : Hp) (q : (Int32 × Hp)) (hk28 : ∀ (h : Hp) (q : (Int32 × Hp)), k28 h = some q → J κ 28 [] [] h (some (.inl q.1), q.2)) (hk36 : ∀ (h : Hp) (q : (Int32 × Hp)), k36 h = some q → J κ 36 [] [] h (some (.inl q.1), q.2)) (hq : itr2 (F_X13_hasBeats_2 x1 k28 k36) N x2 h = some q) : J κ 2 [(0, .inr (.inr 155)), (1, .inl x1), (2, .inl x2)] [] h (some (.inl q.1), q.2) :=
  itr2_ind (fun self hs x2 h q hq => tF_X13_hasBeats_2 X x1 k28 k36 self x2 h q hk28 hk36 hs hq) N x2 h q hq
theorem tf_X13_hasBeats {κ : Kx} (X : OK κ cX13_hasBeats 3 (some .boolean) "StruckWordsModel" 1) (x1 : Int32) (h : Hp) (q : (Int32 × Hp)) (hq : f_X13_hasBeats x1 h = some q) : J κ 0 [(0, .inr (.inr 155)), (1, .inl x1)] [] h (some (.inl q.1), q.2) := by
  delta f_X13_hasBeats at hq
  refine J_iconst (pc := 0) X (v := 1) (by decide) dX13_hasBeats_0 ?_
  refine J_istore_n (pc := 1) X (L' := [(2, .inl 1), (0, .inr (.inr 155)), (1, .inl x1)]) (i := 2) rfl (by decide) rfl dX13_hasBeats_1 ?_
  refine J_sub [1, 2, 0] rfl ?_
  refine tL_X13_hasBeats_2 X _ _ _ N0 _ _ _ ?_ ?_ hq
  · intro h4 q hq
    refine J_iconst (pc := 28) X (v := 0) (by decide) dX13_hasBeats_28 ?_
    obtain rfl := Option.some.inj hq
    exact J_zret (pc := 29) X (by decide) dX13_hasBeats_29
  · intro h5 q hq
    refine J_iconst (pc := 36) X (v := 1) (by decide) dX13_hasBeats_36 ?_
    obtain rfl := Option.some.inj hq
    exact J_zret (pc := 37) X (by decide) dX13_hasBeats_37
theorem m_X13_hasBeats (x1 : Int32) (h : Hp) (q : (Int32 × Hp)) (hq : f_X13_hasBeats x1 h = some q) : ∀ l w, CT l w yX13_hasBeats cX13_hasBeats 3 (some .boolean) 1 [.inr (.inr 155), .inl x1] h (some (.inl q.1), q.2) :=
  CT_of (L0 := [(0, .inr (.inr 155)), (1, .inl x1)]) (by decide) rfl (Nat.le_of_ble_eq_true rfl) (fun κ X => tf_X13_hasBeats X x1 h q  hq)
theorem tB_X13_shortest_31 {κ : Kx} (X : OK κ cX13_shortest 4 (some .int) "StruckWordsModel" 4) (x1 : Int32) (x2 : Int32) (x3 : Int32) (k38 : Hp → Option (Int32 × Hp)) (k40 : Hp → Option (Int32 × Hp)) (self : Hp → Option (Int32 × Hp)) (h : Hp) (q : (Int32 × Hp)) (hk38 : ∀ (h : Hp) (q : (Int32 × Hp)), k38 h = some q → J κ 38 [(3, .inl x3)] [] h (some (.inl q.1), q.2)) (hk40 : ∀ (h : Hp) (q : (Int32 × Hp)), k40 h = some q → J κ 40 [(0, .inr (.inr 155)), (1, .inl x1), (2, .inl x2), (3, .inl x3)] [] h (some (.inl q.1), q.2)) (hself : ∀ (h : Hp) (q : (Int32 × Hp)), self h = some q → J κ 12 [(0, .inr (.inr 155)), (1, .inl x1), (2, .inl x2), (3, .inl x3)] [] h (some (.inl q.1), q.2)) (hq : B_X13_shortest_31 x1 x2 x3 k38 k40 self h = some q) : J κ 31 [(0, .inr (.inr 155)), (1, .inl x1), (2, .inl x2), (3, .inl x3)] [] h (some (.inl q.1), q.2) := by
  delta B_X13_shortest_31 at hq
  refine J_aload_n (pc := 31) X (j := 0) (i := 0) rfl rfl dX13_shortest_31 ?_
  obtain ⟨v8, h7, hc, hq⟩ := bnd_e hq
  refine J_callV (pc := 32) (as := []) (st := []) (st2 := [.inl v8]) (r1 := (some (.inl v8), h7)) (h2 := h7) (ky := 3) X dX13_shortest_32 ca_X13_meetsGoals ci_X13_meetsGoals cs_X13_meetsGoals ml_13_374 (by decide) ly155 rfl rfl (m_X13_meetsGoals _ _ hc) rfl rfl (Nat.le_of_ble_eq_true rfl) rfl rfl ?_
  refine J_if_eq (pc := 35) (tgt := 12) X dX13_shortest_35 rfl (fun c9 => ?_) (fun c9 => ?_)
  · have hq := ite_t hq c9
    exact hself _ _ hq
  · have hq := ite_f hq c9
    refine J_sub [3] rfl ?_
    exact hk38 _ _ hq
theorem tF_X13_shortest_12 {κ : Kx} (X : OK κ cX13_shortest 4 (some .int) "StruckWordsModel" 4) (x1 : Int32) (x2 : Int32) (x3 : Int32) (k38 : Hp → Option (Int32 × Hp)) (k40 : Hp → Option (Int32 × Hp)) (self : Hp → Option (Int32 × Hp)) (h : Hp) (q : (Int32 × Hp)) (hk38 : ∀ (h : Hp) (q : (Int32 × Hp)), k38 h = some q → J κ 38 [(3, .inl x3)] [] h (some (.inl q.1), q.2)) (hk40 : ∀ (h : Hp) (q : (Int32 × Hp)), k40 h = some q → J κ 40 [(0, .inr (.inr 155)), (1, .inl x1), (2, .inl x2), (3, .inl x3)] [] h (some (.inl q.1), q.2)) (hself : ∀ (h : Hp) (q : (Int32 × Hp)), self h = some q → J κ 12 [(0, .inr (.inr 155)), (1, .inl x1), (2, .inl x2), (3, .inl x3)] [] h (some (.inl q.1), q.2)) (hq : F_X13_shortest_12 x1 x2 x3 k38 k40 self h = some q) : J κ 12 [(0, .inr (.inr 155)), (1, .inl x1), (2, .inl x2), (3, .inl x3)] [] h (some (.inl q.1), q.2) := by
  delta F_X13_shortest_12 at hq
  refine J_aload_n (pc := 12) X (j := 0) (i := 0) rfl rfl dX13_shortest_12 ?_
  obtain ⟨v4, h3, hc, hq⟩ := bnd_e hq
  refine J_callV (pc := 13) (as := []) (st := []) (st2 := [.inl v4]) (r1 := (some (.inl v4), h3)) (h2 := h3) (ky := 3) X dX13_shortest_13 ca_X13_nextRow ci_X13_nextRow cs_X13_nextRow ml_13_368 (by decide) ly155 rfl rfl (m_X13_nextRow _ _ hc) rfl rfl (Nat.le_of_ble_eq_true rfl) rfl rfl ?_
  refine J_if_eq (pc := 16) (tgt := 40) X dX13_shortest_16 rfl (fun c5 => ?_) (fun c5 => ?_)
  · have hq := ite_t hq c5
    exact hk40 _ _ hq
  · have hq := ite_f hq c5
    refine J_iload_n (pc := 19) X (j := 2) (i := 2) rfl rfl dX13_shortest_19 ?_
    refine J_if_lt (pc := 20) (tgt := 31) X dX13_shortest_20 rfl (fun c6 => ?_) (fun c6 => ?_)
    · have hq := ite_t hq c6
      exact tB_X13_shortest_31 X _ _ _ _ _ _ _ _ hk38 hk40 hself hq
    · have hq := ite_f hq c6
      refine J_aload_n (pc := 23) X (j := 0) (i := 0) rfl rfl dX13_shortest_23 ?_
      refine J_iload_n (pc := 24) X (j := 2) (i := 2) rfl rfl dX13_shortest_24 ?_
      obtain ⟨v11, h10, hc, hq⟩ := bnd_e hq
      refine J_callV (pc := 25) (as := [.inl x2]) (st := []) (st2 := [.inl v11]) (r1 := (some (.inl v11), h10)) (h2 := h10) (ky := 1) X dX13_shortest_25 ca_X13_hasBeats ci_X13_hasBeats cs_X13_hasBeats ml_13_371 (by decide) ly155 rfl rfl (m_X13_hasBeats _ _ _ hc) rfl rfl (Nat.le_of_ble_eq_true rfl) rfl rfl ?_
      refine J_if_eq (pc := 28) (tgt := 12) X dX13_shortest_28 rfl (fun c12 => ?_) (fun c12 => ?_)
      · have hq := ite_t hq c12
        exact hself _ _ hq
      · have hq := ite_f hq c12
        exact tB_X13_shortest_31 X _ _ _ _ _ _ _ _ hk38 hk40 hself hq
theorem tL_X13_shortest_12 {κ : Kx} (X : OK κ cX13_shortest 4 (some .int) "StruckWordsModel" 4) (x1 : Int32) (x2 : Int32) (x3 : Int32) (k38 : Hp → Option (Int32 × Hp)) (k40 : Hp → Option (Int32 × Hp)) (N : Nat) (h : Hp) (q : (Int32 × Hp)) (hk38 : ∀ (h : Hp) (q : (Int32 × Hp)), k38 h = some q → J κ 38 [(3, .inl x3)] [] h (some (.inl q.1), q.2)) (hk40 : ∀ (h : Hp) (q : (Int32 × Hp)), k40 h = some q → J κ 40 [(0, .inr (.inr 155)), (1, .inl x1), (2, .inl x2), (3, .inl x3)] [] h (some (.inl q.1), q.2)) (hq : itr1 (F_X13_shortest_12 x1 x2 x3 k38 k40) N h = some q) : J κ 12 [(0, .inr (.inr 155)), (1, .inl x1), (2, .inl x2), (3, .inl x3)] [] h (some (.inl q.1), q.2) :=
  itr1_ind (fun self hs  h q hq => tF_X13_shortest_12 X x1 x2 x3 k38 k40 self h q hk38 hk40 hs hq) N  h q hq
theorem tF_X13_shortest_2 {κ : Kx} (X : OK κ cX13_shortest 4 (some .int) "StruckWordsModel" 4) (x1 : Int32) (x2 : Int32) (k38 : Int32 → Hp → Option (Int32 × Hp)) (k46 : Hp → Option (Int32 × Hp)) (self : Int32 → Hp → Option (Int32 × Hp)) (x3 : Int32) (h : Hp) (q : (Int32 × Hp)) (hk38 : ∀ (x3 : Int32) (h : Hp) (q : (Int32 × Hp)), k38 x3 h = some q → J κ 38 [(3, .inl x3)] [] h (some (.inl q.1), q.2)) (hk46 : ∀ (h : Hp) (q : (Int32 × Hp)), k46 h = some q → J κ 46 [] [] h (some (.inl q.1), q.2)) (hself : ∀ (x3 : Int32) (h : Hp) (q : (Int32 × Hp)), self x3 h = some q → J κ 2 [(0, .inr (.inr 155)), (1, .inl x1), (2, .inl x2), (3, .inl x3)] [] h (some (.inl q.1), q.2)) (hq : F_X13_shortest_2 x1 x2 k38 k46 self x3 h = some q) : J κ 2 [(0, .inr (.inr 155)), (1, .inl x1), (2, .inl x2), (3, .inl x3)] [] h (some (.inl q.1), q.2) := by
  delta F_X13_shortest_2 at hq
  refine J_iload_n (pc := 2) X (j := 3) (i := 3) rfl rfl dX13_shortest_2 ?_
  refine J_iload_n (pc := 3) X (j := 1) (i := 1) rfl rfl dX13_shortest_3 ?_
  refine J_icmp_gt (pc := 4) (tgt := 46) X dX13_shortest_4 rfl (fun c1 => ?_) (fun c1 => ?_)
  · have hq := ite_t hq c1
    refine J_sub [] rfl ?_
    exact hk46 _ _ hq
  · have hq := ite_f hq c1
    refine J_aload_n (pc := 7) X (j := 0) (i := 0) rfl rfl dX13_shortest_7 ?_
    refine J_iload_n (pc := 8) X (j := 3) (i := 3) rfl rfl dX13_shortest_8 ?_
    obtain ⟨h2, hc, hq⟩ := bnv_e hq
    refine J_callV (pc := 9) (as := [.inl x3]) (st := []) (st2 := []) (r1 := (none, h2)) (h2 := h2) (ky := 1) X dX13_shortest_9 ca_X13_begin ci_X13_begin cs_X13_begin ml_13_365 (by decide) ly155 rfl rfl (m_X13_begin _ _ _ hc) rfl rfl (Nat.le_of_ble_eq_true rfl) rfl rfl ?_
    refine tL_X13_shortest_12 X _ _ _ _ _ N0 _ _ ?_ ?_ hq
    · intro h13 q hq
      exact hk38 _ _ _ hq
    · intro h14 q hq
      refine J_iinc (pc := 40) X (j := 3) (v := 1) (L' := [(3, .inl (x3 + 1)), (0, .inr (.inr 155)), (1, .inl x1), (2, .inl x2)]) rfl (by decide) (by decide) rfl dX13_shortest_40 ?_
      refine J_goto (pc := 43) X (tgt := 2) dX13_shortest_43 rfl ?_
      refine J_sub [1, 2, 3, 0] rfl ?_
      exact hself _ _ _ hq
theorem tL_X13_shortest_2 {κ : Kx} (X : OK κ cX13_shortest 4 (some .int) "StruckWordsModel" 4) (x1 : Int32) (x2 : Int32) (k38 : Int32 → Hp → Option (Int32 × Hp)) (k46 : Hp → Option (Int32 × Hp)) (N : Nat) (x3 : Int32) (h : Hp) (q : (Int32 × Hp)) (hk38 : ∀ (x3 : Int32) (h : Hp) (q : (Int32 × Hp)), k38 x3 h = some q → J κ 38 [(3, .inl x3)] [] h (some (.inl q.1), q.2)) (hk46 : ∀ (h : Hp) (q : (Int32 × Hp)), k46 h = some q → J κ 46 [] [] h (some (.inl q.1), q.2)) (hq : itr2 (F_X13_shortest_2 x1 x2 k38 k46) N x3 h = some q) : J κ 2 [(0, .inr (.inr 155)), (1, .inl x1), (2, .inl x2), (3, .inl x3)] [] h (some (.inl q.1), q.2) :=
  itr2_ind (fun self hs x3 h q hq => tF_X13_shortest_2 X x1 x2 k38 k46 self x3 h q hk38 hk46 hs hq) N x3 h q hq
theorem tf_X13_shortest {κ : Kx} (X : OK κ cX13_shortest 4 (some .int) "StruckWordsModel" 4) (x1 : Int32) (x2 : Int32) (h : Hp) (q : (Int32 × Hp)) (hq : f_X13_shortest x1 x2 h = some q) : J κ 0 [(0, .inr (.inr 155)), (1, .inl x1), (2, .inl x2)] [] h (some (.inl q.1), q.2) := by
  delta f_X13_shortest at hq
  refine J_iconst (pc := 0) X (v := 1) (by decide) dX13_shortest_0 ?_
  refine J_istore_n (pc := 1) X (L' := [(3, .inl 1), (0, .inr (.inr 155)), (1, .inl x1), (2, .inl x2)]) (i := 3) rfl (by decide) rfl dX13_shortest_1 ?_
  refine J_sub [1, 2, 3, 0] rfl ?_
  refine tL_X13_shortest_2 X _ _ _ _ N0 _ _ _ ?_ ?_ hq
  · intro v16 h15 q hq
    refine J_iload_n (pc := 38) X (j := 0) (i := 3) rfl rfl dX13_shortest_38 ?_
    obtain rfl := Option.some.inj hq
    exact J_iret (pc := 39) X dX13_shortest_39
  · intro h17 q hq
    refine J_iconst (pc := 46) X (v := (-1)) (by decide) dX13_shortest_46 ?_
    obtain rfl := Option.some.inj hq
    exact J_iret (pc := 47) X dX13_shortest_47
theorem m_X13_shortest (x1 : Int32) (x2 : Int32) (h : Hp) (q : (Int32 × Hp)) (hq : f_X13_shortest x1 x2 h = some q) : ∀ l w, CT l w yX13_shortest cX13_shortest 4 (some .int) 4 [.inr (.inr 155), .inl x1, .inl x2] h (some (.inl q.1), q.2) :=
  CT_of (L0 := [(0, .inr (.inr 155)), (1, .inl x1), (2, .inl x2)]) (by decide) rfl (Nat.le_of_ble_eq_true rfl) (fun κ X => tf_X13_shortest X x1 x2 h q  hq)
