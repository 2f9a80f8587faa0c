theorem tF_X13_book_48 {κ : Kx} (X : OK κ cX13_book 7 (some .int) "StruckWordsModel" 3) (x1 : Int32) (x2 : Int32) (x3 : Int32) (x4 : Int32) (k85 : Hp → Option (Int32 × Hp)) (self : Int32 → Hp → Option (Int32 × Hp)) (x5 : Int32) (h : Hp) (q : (Int32 × Hp)) (hk85 : ∀ (h : Hp) (q : (Int32 × Hp)), k85 h = some q → J κ 85 [(0, .inr (.inr 155)), (1, .inl x1), (2, .inl x2), (3, .inl x3), (4, .inl x4)] [] h (some (.inl q.1), q.2)) (hself : ∀ (x5 : Int32) (h : Hp) (q : (Int32 × Hp)), self x5 h = some q → J κ 48 [(0, .inr (.inr 155)), (1, .inl x1), (2, .inl x2), (3, .inl x3), (4, .inl x4), (5, .inl x5)] [] h (some (.inl q.1), q.2)) (hq : F_X13_book_48 x1 x2 x3 x4 k85 self x5 h = some q) : J κ 48 [(0, .inr (.inr 155)), (1, .inl x1), (2, .inl x2), (3, .inl x3), (4, .inl x4), (5, .inl x5)] [] h (some (.inl q.1), q.2) := by
  delta F_X13_book_48 at hq
  refine J_iload (pc := 48) X (j := 5) rfl dX13_book_48 ?_
  refine J_aload_n (pc := 50) X (j := 0) (i := 0) rfl rfl dX13_book_50 ?_
  refine J_getF (pc := 51) X (b := 157) ly155 fl_13_33 rfl dX13_book_51 ?_
  refine J_iload (pc := 54) X (j := 4) rfl dX13_book_54 ?_
  obtain ⟨g8, hq⟩ := gd hq
  refine J_iaload (pc := 56) X ly157 g8 dX13_book_56 ?_
  refine J_icmp_ge (pc := 57) (tgt := 85) X dX13_book_57 rfl (fun c9 => ?_) (fun c9 => ?_)
  · have hq := ite_t hq c9
    refine J_sub [0, 1, 2, 3, 4] rfl ?_
    exact hk85 _ _ hq
  · have hq := ite_f hq c9
    refine J_aload_n (pc := 60) X (j := 0) (i := 0) rfl rfl dX13_book_60 ?_
    refine J_getF (pc := 61) X (b := 161) ly155 fl_13_47 rfl dX13_book_61 ?_
    refine J_iload (pc := 64) X (j := 5) rfl dX13_book_64 ?_
    refine J_aload_n (pc := 66) X (j := 0) (i := 0) rfl rfl dX13_book_66 ?_
    refine J_getF (pc := 67) X (b := 157) ly155 fl_13_33 rfl dX13_book_67 ?_
    refine J_iload (pc := 70) X (j := 4) rfl dX13_book_70 ?_
    refine J_iconst (pc := 72) X (v := 1) (by decide) dX13_book_72 ?_
    refine J_iadd (pc := 73) X dX13_book_73 ?_
    refine J_iload (pc := 74) X (j := 5) rfl dX13_book_74 ?_
    refine J_iadd (pc := 76) X dX13_book_76 ?_
    obtain ⟨g10, hq⟩ := gd hq
    refine J_iaload (pc := 77) X ly157 g10 dX13_book_77 ?_
    obtain ⟨g11, hq⟩ := gd hq
    refine J_iastore (pc := 78) X ly161 g11 dX13_book_78 ?_
    refine J_ltH hq (fun h12 hq => ?_)
    refine J_iinc (pc := 79) X (j := 5) (v := 1) (L' := [(5, .inl (x5 + 1)), (0, .inr (.inr 155)), (1, .inl x1), (2, .inl x2), (3, .inl x3), (4, .inl x4)]) rfl (by decide) (by decide) rfl dX13_book_79 ?_
    refine J_goto (pc := 82) X (tgt := 48) dX13_book_82 rfl ?_
    refine J_sub [1, 2, 3, 4, 5, 0] rfl ?_
    exact hself _ _ _ hq
theorem tL_X13_book_48 {κ : Kx} (X : OK κ cX13_book 7 (some .int) "StruckWordsModel" 3) (x1 : Int32) (x2 : Int32) (x3 : Int32) (x4 : Int32) (k85 : Hp → Option (Int32 × Hp)) (N : Nat) (x5 : Int32) (h : Hp) (q : (Int32 × Hp)) (hk85 : ∀ (h : Hp) (q : (Int32 × Hp)), k85 h = some q → J κ 85 [(0, .inr (.inr 155)), (1, .inl x1), (2, .inl x2), (3, .inl x3), (4, .inl x4)] [] h (some (.inl q.1), q.2)) (hq : itr2 (F_X13_book_48 x1 x2 x3 x4 k85) N x5 h = some q) : J κ 48 [(0, .inr (.inr 155)), (1, .inl x1), (2, .inl x2), (3, .inl x3), (4, .inl x4), (5, .inl x5)] [] h (some (.inl q.1), q.2) :=
  itr2_ind (fun self hs x5 h q hq => tF_X13_book_48 X x1 x2 x3 x4 k85 self x5 h q hk85 hs hq) N x5 h q hq
theorem tB_X13_book_129 {κ : Kx} (X : OK κ cX13_book 7 (some .int) "StruckWordsModel" 3) (x1 : Int32) (x3 : Int32) (x4 : Int32) (x5 : Int32) (k179 : Int32 → Hp → Option (Int32 × Hp)) (self : Int32 → Int32 → Hp → Option (Int32 × Hp)) (x2 : Int32) (x6 : Int32) (h : Hp) (q : (Int32 × Hp)) (hk179 : ∀ (x2 : Int32) (h : Hp) (q : (Int32 × Hp)), k179 x2 h = some q → J κ 179 [(0, .inr (.inr 155)), (1, .inl x1), (2, .inl x2), (3, .inl x3)] [] h (some (.inl q.1), q.2)) (hself : ∀ (x2 : Int32) (x6 : Int32) (h : Hp) (q : (Int32 × Hp)), self x2 x6 h = some q → J κ 105 [(0, .inr (.inr 155)), (1, .inl x1), (2, .inl x2), (3, .inl x3), (4, .inl x4), (5, .inl x5), (6, .inl x6)] [] h (some (.inl q.1), q.2)) (hq : B_X13_book_129 x1 x3 x4 x5 k179 self x2 x6 h = some q) : J κ 129 [(0, .inr (.inr 155)), (1, .inl x1), (2, .inl x2), (3, .inl x3), (4, .inl x4), (5, .inl x5), (6, .inl x6)] [] h (some (.inl q.1), q.2) := by
  delta B_X13_book_129 at hq
  refine J_aload_n (pc := 129) X (j := 0) (i := 0) rfl rfl dX13_book_129 ?_
  refine J_aload_n (pc := 130) X (j := 0) (i := 0) rfl rfl dX13_book_130 ?_
  refine J_getF (pc := 131) X (b := 161) ly155 fl_13_47 rfl dX13_book_131 ?_
  refine J_aload_n (pc := 134) X (j := 0) (i := 0) rfl rfl dX13_book_134 ?_
  refine J_getF (pc := 135) X (b := 157) ly155 fl_13_33 rfl dX13_book_135 ?_
  refine J_iload (pc := 138) X (j := 4) rfl dX13_book_138 ?_
  obtain ⟨g19, hq⟩ := gd hq
  refine J_iaload (pc := 140) X ly157 g19 dX13_book_140 ?_
  refine J_iload (pc := 141) X (j := 6) rfl dX13_book_141 ?_
  obtain ⟨h20, hc, hq⟩ := bnv_e hq
  refine J_callV (pc := 143) (as := [.inr (.inr 161), .inl (h.1 157 (x4.toNatClampNeg)), .inl x6]) (st := []) (st2 := []) (r1 := (none, h20)) (h2 := h20) (ky := 2) X dX13_book_143 ca_X13_leave ci_X13_leave cs_X13_leave ml_13_306 (by decide) ly155 rfl rfl (m_X13_leave _ _ _ _ _ (aln_of ly161) hc) rfl rfl (Nat.le_of_ble_eq_true rfl) rfl rfl ?_
  refine J_iload_n (pc := 146) X (j := 2) (i := 2) rfl rfl dX13_book_146 ?_
  refine J_aload_n (pc := 147) X (j := 0) (i := 0) rfl rfl dX13_book_147 ?_
  refine J_aload_n (pc := 148) X (j := 0) (i := 0) rfl rfl dX13_book_148 ?_
  refine J_getF (pc := 149) X (b := 162) ly155 fl_13_50 rfl dX13_book_149 ?_
  refine J_aload_n (pc := 152) X (j := 0) (i := 0) rfl rfl dX13_book_152 ?_
  refine J_getI (pc := 153) X ly155 fl_13_303 dX13_book_153 ?_
  obtain ⟨v22, h21, hc, hq⟩ := bnd_e hq
  refine J_callV (pc := 156) (as := [.inr (.inr 162), .inl (h20.1 155 27)]) (st := [.inl x2]) (st2 := [.inl v22, .inl x2]) (r1 := (some (.inl v22), h21)) (h2 := h21) (ky := 2) X dX13_book_156 ca_X13_meant ci_X13_meant cs_X13_meant ml_13_331 (by decide) ly155 rfl rfl (m_X13_meant _ _ _ _ (aln_of ly162) hc) rfl rfl (Nat.le_of_ble_eq_true rfl) rfl rfl ?_
  refine J_iload (pc := 159) X (j := 5) rfl dX13_book_159 ?_
  refine J_icmp_eq (pc := 161) (tgt := 170) X dX13_book_161 rfl (fun c23 => ?_) (fun c23 => ?_)
  · have hq := ite_t hq c23
    refine J_iconst (pc := 170) X (v := 0) (by decide) dX13_book_170 ?_
    refine J_ior (pc := 171) X dX13_book_171 ?_
    refine J_ltI hq (fun v24 hq => ?_)
    refine J_istore_n (pc := 172) X (L' := [(2, .inl v24), (0, .inr (.inr 155)), (1, .inl x1), (3, .inl x3), (4, .inl x4), (5, .inl x5), (6, .inl x6)]) (i := 2) rfl (by decide) rfl dX13_book_172 ?_
    refine J_iinc (pc := 173) X (j := 6) (v := 1) (L' := [(6, .inl (x6 + 1)), (2, .inl v24), (0, .inr (.inr 155)), (1, .inl x1), (3, .inl x3), (4, .inl x4), (5, .inl x5)]) rfl (by decide) (by decide) rfl dX13_book_173 ?_
    refine J_goto (pc := 176) X (tgt := 105) dX13_book_176 rfl ?_
    refine J_sub [2, 3, 1, 4, 5, 6, 0] rfl ?_
    exact hself _ _ _ _ hq
  · have hq := ite_f hq c23
    refine J_iconst (pc := 164) X (v := 1) (by decide) dX13_book_164 ?_
    refine J_iload_n (pc := 165) X (j := 3) (i := 3) rfl rfl dX13_book_165 ?_
    refine J_ishl (pc := 166) X dX13_book_166 ?_
    refine J_goto (pc := 167) X (tgt := 171) dX13_book_167 rfl ?_
    refine J_ior (pc := 171) X dX13_book_171 ?_
    refine J_ltI hq (fun v25 hq => ?_)
    refine J_istore_n (pc := 172) X (L' := [(2, .inl v25), (0, .inr (.inr 155)), (1, .inl x1), (3, .inl x3), (4, .inl x4), (5, .inl x5), (6, .inl x6)]) (i := 2) rfl (by decide) rfl dX13_book_172 ?_
    refine J_iinc (pc := 173) X (j := 6) (v := 1) (L' := [(6, .inl (x6 + 1)), (2, .inl v25), (0, .inr (.inr 155)), (1, .inl x1), (3, .inl x3), (4, .inl x4), (5, .inl x5)]) rfl (by decide) (by decide) rfl dX13_book_173 ?_
    refine J_goto (pc := 176) X (tgt := 105) dX13_book_176 rfl ?_
    refine J_sub [2, 3, 1, 4, 5, 6, 0] rfl ?_
    exact hself _ _ _ _ hq
theorem tF_X13_book_105 {κ : Kx} (X : OK κ cX13_book 7 (some .int) "StruckWordsModel" 3) (x1 : Int32) (x3 : Int32) (x4 : Int32) (x5 : Int32) (k179 : Int32 → Hp → Option (Int32 × Hp)) (self : Int32 → Int32 → Hp → Option (Int32 × Hp)) (x2 : Int32) (x6 : Int32) (h : Hp) (q : (Int32 × Hp)) (hk179 : ∀ (x2 : Int32) (h : Hp) (q : (Int32 × Hp)), k179 x2 h = some q → J κ 179 [(0, .inr (.inr 155)), (1, .inl x1), (2, .inl x2), (3, .inl x3)] [] h (some (.inl q.1), q.2)) (hself : ∀ (x2 : Int32) (x6 : Int32) (h : Hp) (q : (Int32 × Hp)), self x2 x6 h = some q → J κ 105 [(0, .inr (.inr 155)), (1, .inl x1), (2, .inl x2), (3, .inl x3), (4, .inl x4), (5, .inl x5), (6, .inl x6)] [] h (some (.inl q.1), q.2)) (hq : F_X13_book_105 x1 x3 x4 x5 k179 self x2 x6 h = some q) : J κ 105 [(0, .inr (.inr 155)), (1, .inl x1), (2, .inl x2), (3, .inl x3), (4, .inl x4), (5, .inl x5), (6, .inl x6)] [] h (some (.inl q.1), q.2) := by
  delta F_X13_book_105 at hq
  refine J_iload (pc := 105) X (j := 6) rfl dX13_book_105 ?_
  refine J_aload_n (pc := 107) X (j := 0) (i := 0) rfl rfl dX13_book_107 ?_
  refine J_getF (pc := 108) X (b := 157) ly155 fl_13_33 rfl dX13_book_108 ?_
  refine J_iconst (pc := 111) X (v := 3) (by decide) dX13_book_111 ?_
  refine J_iaload (pc := 112) X ly157 (by decide) dX13_book_112 ?_
  refine J_icmp_gt (pc := 113) (tgt := 179) X dX13_book_113 rfl (fun c17 => ?_) (fun c17 => ?_)
  · have hq := ite_t hq c17
    refine J_sub [0, 1, 2, 3] rfl ?_
    exact hk179 _ _ _ hq
  · have hq := ite_f hq c17
    refine J_iload_n (pc := 116) X (j := 1) (i := 1) rfl rfl dX13_book_116 ?_
    refine J_if_le (pc := 117) (tgt := 129) X dX13_book_117 rfl (fun c18 => ?_) (fun c18 => ?_)
    · have hq := ite_t hq c18
      exact tB_X13_book_129 X _ _ _ _ _ _ _ _ _ _ hk179 hself hq
    · have hq := ite_f hq c18
      refine J_iload (pc := 120) X (j := 6) rfl dX13_book_120 ?_
      refine J_iload_n (pc := 122) X (j := 1) (i := 1) rfl rfl dX13_book_122 ?_
      refine J_icmp_eq (pc := 123) (tgt := 129) X dX13_book_123 rfl (fun c26 => ?_) (fun c26 => ?_)
      · have hq := ite_t hq c26
        exact tB_X13_book_129 X _ _ _ _ _ _ _ _ _ _ hk179 hself hq
      · have hq := ite_f hq c26
        refine J_goto (pc := 126) X (tgt := 173) dX13_book_126 rfl ?_
        refine J_iinc (pc := 173) X (j := 6) (v := 1) (L' := [(6, .inl (x6 + 1)), (0, .inr (.inr 155)), (1, .inl x1), (2, .inl x2), (3, .inl x3), (4, .inl x4), (5, .inl x5)]) rfl (by decide) (by decide) rfl dX13_book_173 ?_
        refine J_goto (pc := 176) X (tgt := 105) dX13_book_176 rfl ?_
        refine J_sub [1, 2, 3, 4, 5, 6, 0] rfl ?_
        exact hself _ _ _ _ hq
theorem tL_X13_book_105 {κ : Kx} (X : OK κ cX13_book 7 (some .int) "StruckWordsModel" 3) (x1 : Int32) (x3 : Int32) (x4 : Int32) (x5 : Int32) (k179 : Int32 → Hp → Option (Int32 × Hp)) (N : Nat) (x2 : Int32) (x6 : Int32) (h : Hp) (q : (Int32 × Hp)) (hk179 : ∀ (x2 : Int32) (h : Hp) (q : (Int32 × Hp)), k179 x2 h = some q → J κ 179 [(0, .inr (.inr 155)), (1, .inl x1), (2, .inl x2), (3, .inl x3)] [] h (some (.inl q.1), q.2)) (hq : itr3 (F_X13_book_105 x1 x3 x4 x5 k179) N x2 x6 h = some q) : J κ 105 [(0, .inr (.inr 155)), (1, .inl x1), (2, .inl x2), (3, .inl x3), (4, .inl x4), (5, .inl x5), (6, .inl x6)] [] h (some (.inl q.1), q.2) :=
  itr3_ind (fun self hs x2 x6 h q hq => tF_X13_book_105 X x1 x3 x4 x5 k179 self x2 x6 h q hk179 hs hq) N x2 x6 h q hq
theorem tF_X13_book_23 {κ : Kx} (X : OK κ cX13_book 7 (some .int) "StruckWordsModel" 3) (x1 : Int32) (k185 : Int32 → Hp → Option (Int32 × Hp)) (self : Int32 → Int32 → Hp → Option (Int32 × Hp)) (x2 : Int32) (x3 : Int32) (h : Hp) (q : (Int32 × Hp)) (hk185 : ∀ (x2 : Int32) (h : Hp) (q : (Int32 × Hp)), k185 x2 h = some q → J κ 185 [(2, .inl x2)] [] h (some (.inl q.1), q.2)) (hself : ∀ (x2 : Int32) (x3 : Int32) (h : Hp) (q : (Int32 × Hp)), self x2 x3 h = some q → J κ 23 [(0, .inr (.inr 155)), (1, .inl x1), (2, .inl x2), (3, .inl x3)] [] h (some (.inl q.1), q.2)) (hq : F_X13_book_23 x1 k185 self x2 x3 h = some q) : J κ 23 [(0, .inr (.inr 155)), (1, .inl x1), (2, .inl x2), (3, .inl x3)] [] h (some (.inl q.1), q.2) := by
  delta F_X13_book_23 at hq
  refine J_iload_n (pc := 23) X (j := 3) (i := 3) rfl rfl dX13_book_23 ?_
  refine J_aload_n (pc := 24) X (j := 0) (i := 0) rfl rfl dX13_book_24 ?_
  refine J_getF (pc := 25) X (b := 157) ly155 fl_13_33 rfl dX13_book_25 ?_
  refine J_sipush (pc := 28) X (v := 462) (by decide) dX13_book_28 ?_
  refine J_iaload (pc := 31) X ly157 (by decide) dX13_book_31 ?_
  refine J_icmp_ge (pc := 32) (tgt := 185) X dX13_book_32 rfl (fun c6 => ?_) (fun c6 => ?_)
  · have hq := ite_t hq c6
    refine J_sub [2] rfl ?_
    exact hk185 _ _ _ hq
  · have hq := ite_f hq c6
    refine J_sipush (pc := 35) X (v := 463) (by decide) dX13_book_35 ?_
    refine J_bipush (pc := 38) X (v := 25) (by decide) dX13_book_38 ?_
    refine J_iload_n (pc := 40) X (j := 3) (i := 3) rfl rfl dX13_book_40 ?_
    refine J_imul (pc := 41) X dX13_book_41 ?_
    refine J_iadd (pc := 42) X dX13_book_42 ?_
    refine J_ltI hq (fun v7 hq => ?_)
    refine J_istore (pc := 43) X (L' := [(4, .inl v7), (0, .inr (.inr 155)), (1, .inl x1), (2, .inl x2), (3, .inl x3)]) (by decide) rfl dX13_book_43 ?_
    refine J_iconst (pc := 45) X (v := 0) (by decide) dX13_book_45 ?_
    refine J_istore (pc := 46) X (L' := [(5, .inl 0), (4, .inl v7), (0, .inr (.inr 155)), (1, .inl x1), (2, .inl x2), (3, .inl x3)]) (by decide) rfl dX13_book_46 ?_
    refine J_sub [2, 3, 4, 5, 1, 0] rfl ?_
    refine tL_X13_book_48 X _ _ _ _ _ N0 _ _ _ ?_ hq
    · intro h13 q hq
      refine J_aload_n (pc := 85) X (j := 0) (i := 0) rfl rfl dX13_book_85 ?_
      refine J_aload_n (pc := 86) X (j := 0) (i := 0) rfl rfl dX13_book_86 ?_
      refine J_getF (pc := 87) X (b := 161) ly155 fl_13_47 rfl dX13_book_87 ?_
      refine J_aload_n (pc := 90) X (j := 0) (i := 0) rfl rfl dX13_book_90 ?_
      refine J_getF (pc := 91) X (b := 157) ly155 fl_13_33 rfl dX13_book_91 ?_
      refine J_iload (pc := 94) X (j := 4) rfl dX13_book_94 ?_
      obtain ⟨g14, hq⟩ := gd hq
      refine J_iaload (pc := 96) X ly157 g14 dX13_book_96 ?_
      obtain ⟨v16, h15, hc, hq⟩ := bnd_e hq
      refine J_callV (pc := 97) (as := [.inr (.inr 161), .inl (h13.1 157 (v7.toNatClampNeg))]) (st := []) (st2 := [.inl v16]) (r1 := (some (.inl v16), h15)) (h2 := h15) (ky := 2) X dX13_book_97 ca_X13_meant ci_X13_meant cs_X13_meant ml_13_331 (by decide) ly155 rfl rfl (m_X13_meant _ _ _ _ (aln_of ly161) hc) rfl rfl (Nat.le_of_ble_eq_true rfl) rfl rfl ?_
      refine J_istore (pc := 100) X (L' := [(5, .inl v16), (0, .inr (.inr 155)), (1, .inl x1), (2, .inl x2), (3, .inl x3), (4, .inl v7)]) (by decide) rfl dX13_book_100 ?_
      refine J_iconst (pc := 102) X (v := 1) (by decide) dX13_book_102 ?_
      refine J_istore (pc := 103) X (L' := [(6, .inl 1), (5, .inl v16), (0, .inr (.inr 155)), (1, .inl x1), (2, .inl x2), (3, .inl x3), (4, .inl v7)]) (by decide) rfl dX13_book_103 ?_
      refine J_sub [2, 3, 4, 5, 6, 1, 0] rfl ?_
      refine tL_X13_book_105 X _ _ _ _ _ N0 _ _ _ _ ?_ hq
      · intro v28 h27 q hq
        refine J_iinc (pc := 179) X (j := 3) (v := 1) (L' := [(3, .inl (x3 + 1)), (0, .inr (.inr 155)), (1, .inl x1), (2, .inl v28)]) rfl (by decide) (by decide) rfl dX13_book_179 ?_
        refine J_goto (pc := 182) X (tgt := 23) dX13_book_182 rfl ?_
        refine J_sub [1, 2, 3, 0] rfl ?_
        exact hself _ _ _ _ hq
theorem tL_X13_book_23 {κ : Kx} (X : OK κ cX13_book 7 (some .int) "StruckWordsModel" 3) (x1 : Int32) (k185 : Int32 → Hp → Option (Int32 × Hp)) (N : Nat) (x2 : Int32) (x3 : Int32) (h : Hp) (q : (Int32 × Hp)) (hk185 : ∀ (x2 : Int32) (h : Hp) (q : (Int32 × Hp)), k185 x2 h = some q → J κ 185 [(2, .inl x2)] [] h (some (.inl q.1), q.2)) (hq : itr3 (F_X13_book_23 x1 k185) N x2 x3 h = some q) : J κ 23 [(0, .inr (.inr 155)), (1, .inl x1), (2, .inl x2), (3, .inl x3)] [] h (some (.inl q.1), q.2) :=
  itr3_ind (fun self hs x2 x3 h q hq => tF_X13_book_23 X x1 k185 self x2 x3 h q hk185 hs hq) N x2 x3 h q hq
theorem tf_X13_book {κ : Kx} (X : OK κ cX13_book 7 (some .int) "StruckWordsModel" 3) (x1 : Int32) (h : Hp) (q : (Int32 × Hp)) (hq : f_X13_book x1 h = some q) : J κ 0 [(0, .inr (.inr 155)), (1, .inl x1)] [] h (some (.inl q.1), q.2) := by
  delta f_X13_book at hq
  refine J_aload_n (pc := 0) X (j := 0) (i := 0) rfl rfl dX13_book_0 ?_
  refine J_iconst (pc := 1) X (v := 0) (by decide) dX13_book_1 ?_
  refine J_putI (pc := 2) X ly155 fp_13_1 dX13_book_2 ?_
  refine J_ltH hq (fun h1 hq => ?_)
  refine J_aload_n (pc := 5) X (j := 0) (i := 0) rfl rfl dX13_book_5 ?_
  refine J_iload_n (pc := 6) X (j := 1) (i := 1) rfl rfl dX13_book_6 ?_
  obtain ⟨v3, h2, hc, hq⟩ := bnd_e hq
  refine J_callV (pc := 7) (as := [.inl x1]) (st := []) (st2 := [.inl v3]) (r1 := (some (.inl v3), h2)) (h2 := h2) (ky := 2) X dX13_book_7 ca_X13_isBeginning ci_X13_isBeginning cs_X13_isBeginning ml_13_310 (by decide) ly155 rfl rfl (m_X13_isBeginning _ _ _ hc) rfl rfl (Nat.le_of_ble_eq_true rfl) rfl rfl ?_
  refine J_if_ne (pc := 10) (tgt := 15) X dX13_book_10 rfl (fun c4 => ?_) (fun c4 => ?_)
  · have hq := ite_f hq c4
    refine J_aload_n (pc := 15) X (j := 0) (i := 0) rfl rfl dX13_book_15 ?_
    obtain ⟨h5, hc, hq⟩ := bnv_e hq
    refine J_callV (pc := 16) (as := []) (st := []) (st2 := []) (r1 := (none, h5)) (h2 := h5) (ky := 2) X dX13_book_16 ca_X13_settle ci_X13_settle cs_X13_settle ml_13_328 (by decide) ly155 rfl rfl (m_X13_settle _ _ hc) rfl rfl (Nat.le_of_ble_eq_true rfl) rfl rfl ?_
    refine J_iconst (pc := 19) X (v := 0) (by decide) dX13_book_19 ?_
    refine J_istore_n (pc := 20) X (L' := [(2, .inl 0), (0, .inr (.inr 155)), (1, .inl x1)]) (i := 2) rfl (by decide) rfl dX13_book_20 ?_
    refine J_iconst (pc := 21) X (v := 0) (by decide) dX13_book_21 ?_
    refine J_istore_n (pc := 22) X (L' := [(3, .inl 0), (2, .inl 0), (0, .inr (.inr 155)), (1, .inl x1)]) (i := 3) rfl (by decide) rfl dX13_book_22 ?_
    refine J_sub [2, 3, 1, 0] rfl ?_
    refine tL_X13_book_23 X _ _ N0 _ _ _ _ ?_ hq
    · intro v30 h29 q hq
      refine J_iload_n (pc := 185) X (j := 0) (i := 2) rfl rfl dX13_book_185 ?_
      obtain rfl := Option.some.inj hq
      exact J_iret (pc := 186) X dX13_book_186
  · have hq := ite_t hq c4
    refine J_iconst (pc := 13) X (v := (-1)) (by decide) dX13_book_13 ?_
    obtain rfl := Option.some.inj hq
    exact J_iret (pc := 14) X dX13_book_14
theorem m_X13_book (x1 : Int32) (h : Hp) (q : (Int32 × Hp)) (hq : f_X13_book x1 h = some q) : ∀ l w, CT l w yX13_book cX13_book 7 (some .int) 3 [.inr (.inr 155), .inl x1] h (some (.inl q.1), q.2) :=
  CT_of (L0 := [(0, .inr (.inr 155)), (1, .inl x1)]) (by decide) rfl (Nat.le_of_ble_eq_true rfl) (fun κ X => tf_X13_book X x1 h q  hq)
theorem tF_X13_image_18 {κ : Kx} (X : OK κ cX13_image 3 (some .boolean) "StruckWordsModel" 2) (x1 : Int32) (k49 : Hp → Option (Int32 × Hp)) (self : Int32 → Hp → Option (Int32 × Hp)) (x2 : Int32) (h : Hp) (q : (Int32 × Hp)) (hk49 : ∀ (h : Hp) (q : (Int32 × Hp)), k49 h = some q → J κ 49 [(0, .inr (.inr 155)), (1, .inl x1)] [] h (some (.inl q.1), q.2)) (hself : ∀ (x2 : Int32) (h : Hp) (q : (Int32 × Hp)), self x2 h = some q → J κ 18 [(0, .inr (.inr 155)), (1, .inl x1), (2, .inl x2)] [] h (some (.inl q.1), q.2)) (hq : F_X13_image_18 x1 k49 self x2 h = some q) : J κ 18 [(0, .inr (.inr 155)), (1, .inl x1), (2, .inl x2)] [] h (some (.inl q.1), q.2) := by
  delta F_X13_image_18 at hq
  refine J_iload_n (pc := 18) X (j := 2) (i := 2) rfl rfl dX13_image_18 ?_
  refine J_sipush (pc := 19) X (v := 713) (by decide) dX13_image_19 ?_
  refine J_icmp_ge (pc := 22) (tgt := 49) X dX13_image_22 rfl (fun c5 => ?_) (fun c5 => ?_)
  · have hq := ite_t hq c5
    refine J_sub [0, 1] rfl ?_
    exact hk49 _ _ hq
  · have hq := ite_f hq c5
    refine J_aload_n (pc := 25) X (j := 0) (i := 0) rfl rfl dX13_image_25 ?_
    refine J_getF (pc := 26) X (b := 183) ly155 fl_13_117 rfl dX13_image_26 ?_
    refine J_sipush (pc := 29) X (v := 713) (by decide) dX13_image_29 ?_
    refine J_iload_n (pc := 32) X (j := 1) (i := 1) rfl rfl dX13_image_32 ?_
    refine J_imul (pc := 33) X dX13_image_33 ?_
    refine J_iload_n (pc := 34) X (j := 2) (i := 2) rfl rfl dX13_image_34 ?_
    refine J_iadd (pc := 35) X dX13_image_35 ?_
    refine J_aload_n (pc := 36) X (j := 0) (i := 0) rfl rfl dX13_image_36 ?_
    refine J_getF (pc := 37) X (b := 157) ly155 fl_13_33 rfl dX13_image_37 ?_
    refine J_iload_n (pc := 40) X (j := 2) (i := 2) rfl rfl dX13_image_40 ?_
    obtain ⟨g6, hq⟩ := gd hq
    refine J_iaload (pc := 41) X ly157 g6 dX13_image_41 ?_
    obtain ⟨g7, hq⟩ := gd hq
    refine J_iastore (pc := 42) X ly183 g7 dX13_image_42 ?_
    refine J_ltH hq (fun h8 hq => ?_)
    refine J_iinc (pc := 43) X (j := 2) (v := 1) (L' := [(2, .inl (x2 + 1)), (0, .inr (.inr 155)), (1, .inl x1)]) rfl (by decide) (by decide) rfl dX13_image_43 ?_
    refine J_goto (pc := 46) X (tgt := 18) dX13_image_46 rfl ?_
    refine J_sub [1, 2, 0] rfl ?_
    exact hself _ _ _ hq
theorem tL_X13_image_18 {κ : Kx} (X : OK κ cX13_image 3 (some .boolean) "StruckWordsModel" 2) (x1 : Int32) (k49 : Hp → Option (Int32 × Hp)) (N : Nat) (x2 : Int32) (h : Hp) (q : (Int32 × Hp)) (hk49 : ∀ (h : Hp) (q : (Int32 × Hp)), k49 h = some q → J κ 49 [(0, .inr (.inr 155)), (1, .inl x1)] [] h (some (.inl q.1), q.2)) (hq : itr2 (F_X13_image_18 x1 k49) N x2 h = some q) : J κ 18 [(0, .inr (.inr 155)), (1, .inl x1), (2, .inl x2)] [] h (some (.inl q.1), q.2) :=
  itr2_ind (fun self hs x2 h q hq => tF_X13_image_18 X x1 k49 self x2 h q hk49 hs hq) N x2 h q hq
theorem tF_X13_image_51 {κ : Kx} (X : OK κ cX13_image 3 (some .boolean) "StruckWordsModel" 2) (x1 : Int32) (k80 : Hp → Option (Int32 × Hp)) (self : Int32 → Hp → Option (Int32 × Hp)) (x2 : Int32) (h : Hp) (q : (Int32 × Hp)) (hk80 : ∀ (h : Hp) (q : (Int32 × Hp)), k80 h = some q → J κ 80 [(0, .inr (.inr 155)), (1, .inl x1)] [] h (some (.inl q.1), q.2)) (hself : ∀ (x2 : Int32) (h : Hp) (q : (Int32 × Hp)), self x2 h = some q → J κ 51 [(0, .inr (.inr 155)), (1, .inl x1), (2, .inl x2)] [] h (some (.inl q.1), q.2)) (hq : F_X13_image_51 x1 k80 self x2 h = some q) : J κ 51 [(0, .inr (.inr 155)), (1, .inl x1), (2, .inl x2)] [] h (some (.inl q.1), q.2) := by
  delta F_X13_image_51 at hq
  refine J_iload_n (pc := 51) X (j := 2) (i := 2) rfl rfl dX13_image_51 ?_
  refine J_bipush (pc := 52) X (v := 16) (by decide) dX13_image_52 ?_
  refine J_icmp_ge (pc := 54) (tgt := 80) X dX13_image_54 rfl (fun c10 => ?_) (fun c10 => ?_)
  · have hq := ite_t hq c10
    refine J_sub [0, 1] rfl ?_
    exact hk80 _ _ hq
  · have hq := ite_f hq c10
    refine J_aload_n (pc := 57) X (j := 0) (i := 0) rfl rfl dX13_image_57 ?_
    refine J_getF (pc := 58) X (b := 184) ly155 fl_13_120 rfl dX13_image_58 ?_
    refine J_bipush (pc := 61) X (v := 16) (by decide) dX13_image_61 ?_
    refine J_iload_n (pc := 63) X (j := 1) (i := 1) rfl rfl dX13_image_63 ?_
    refine J_imul (pc := 64) X dX13_image_64 ?_
    refine J_iload_n (pc := 65) X (j := 2) (i := 2) rfl rfl dX13_image_65 ?_
    refine J_iadd (pc := 66) X dX13_image_66 ?_
    refine J_aload_n (pc := 67) X (j := 0) (i := 0) rfl rfl dX13_image_67 ?_
    refine J_getF (pc := 68) X (b := 159) ly155 fl_13_40 rfl dX13_image_68 ?_
    refine J_iload_n (pc := 71) X (j := 2) (i := 2) rfl rfl dX13_image_71 ?_
    obtain ⟨g11, hq⟩ := gd hq
    refine J_laload (pc := 72) X ly159 g11 dX13_image_72 ?_
    obtain ⟨g12, hq⟩ := gd hq
    refine J_lastore (pc := 73) X ly184 g12 dX13_image_73 ?_
    refine J_ltH hq (fun h13 hq => ?_)
    refine J_iinc (pc := 74) X (j := 2) (v := 1) (L' := [(2, .inl (x2 + 1)), (0, .inr (.inr 155)), (1, .inl x1)]) rfl (by decide) (by decide) rfl dX13_image_74 ?_
    refine J_goto (pc := 77) X (tgt := 51) dX13_image_77 rfl ?_
    refine J_sub [1, 2, 0] rfl ?_
    exact hself _ _ _ hq
theorem tL_X13_image_51 {κ : Kx} (X : OK κ cX13_image 3 (some .boolean) "StruckWordsModel" 2) (x1 : Int32) (k80 : Hp → Option (Int32 × Hp)) (N : Nat) (x2 : Int32) (h : Hp) (q : (Int32 × Hp)) (hk80 : ∀ (h : Hp) (q : (Int32 × Hp)), k80 h = some q → J κ 80 [(0, .inr (.inr 155)), (1, .inl x1)] [] h (some (.inl q.1), q.2)) (hq : itr2 (F_X13_image_51 x1 k80) N x2 h = some q) : J κ 51 [(0, .inr (.inr 155)), (1, .inl x1), (2, .inl x2)] [] h (some (.inl q.1), q.2) :=
  itr2_ind (fun self hs x2 h q hq => tF_X13_image_51 X x1 k80 self x2 h q hk80 hs hq) N x2 h q hq
theorem tf_X13_image {κ : Kx} (X : OK κ cX13_image 3 (some .boolean) "StruckWordsModel" 2) (x1 : Int32) (h : Hp) (q : (Int32 × Hp)) (hq : f_X13_image x1 h = some q) : J κ 0 [(0, .inr (.inr 155)), (1, .inl x1)] [] h (some (.inl q.1), q.2) := by
  delta f_X13_image at hq
  refine J_aload_n (pc := 0) X (j := 0) (i := 0) rfl rfl dX13_image_0 ?_
  refine J_iconst (pc := 1) X (v := 0) (by decide) dX13_image_1 ?_
  refine J_putI (pc := 2) X ly155 fp_13_1 dX13_image_2 ?_
  refine J_ltH hq (fun h1 hq => ?_)
  refine J_iload_n (pc := 5) X (j := 1) (i := 1) rfl rfl dX13_image_5 ?_
  refine J_iconst (pc := 6) X (v := 0) (by decide) dX13_image_6 ?_
  refine J_iconst (pc := 7) X (v := 1) (by decide) dX13_image_7 ?_
  obtain ⟨v3, h2, hc, hq⟩ := bnd_e hq
  refine J_callS (pc := 8) (as := [.inl x1, .inl 0, .inl 1]) (st := []) (st2 := [.inl v3]) (r1 := (some (.inl v3), h2)) (h2 := h2) (ky := 1) X dX13_image_8 ca_X13_isIn cz_X13_isIn ml_13_204 (by decide) (m_X13_isIn _ _ _ _ _ hc) rfl rfl (Nat.le_of_ble_eq_true rfl) rfl rfl ?_
  refine J_if_ne (pc := 11) (tgt := 16) X dX13_image_11 rfl (fun c4 => ?_) (fun c4 => ?_)
  · have hq := ite_f hq c4
    refine J_iconst (pc := 16) X (v := 0) (by decide) dX13_image_16 ?_
    refine J_istore_n (pc := 17) X (L' := [(2, .inl 0), (0, .inr (.inr 155)), (1, .inl x1)]) (i := 2) rfl (by decide) rfl dX13_image_17 ?_
    refine J_sub [1, 2, 0] rfl ?_
    refine tL_X13_image_18 X _ _ N0 _ _ _ ?_ hq
    · intro h9 q hq
      refine J_iconst (pc := 49) X (v := 0) (by decide) dX13_image_49 ?_
      refine J_istore_n (pc := 50) X (L' := [(2, .inl 0), (0, .inr (.inr 155)), (1, .inl x1)]) (i := 2) rfl (by decide) rfl dX13_image_50 ?_
      refine J_sub [1, 2, 0] rfl ?_
      refine tL_X13_image_51 X _ _ N0 _ _ _ ?_ hq
      · intro h14 q hq
        refine J_aload_n (pc := 80) X (j := 0) (i := 0) rfl rfl dX13_image_80 ?_
        refine J_getF (pc := 81) X (b := 185) ly155 fl_13_123 rfl dX13_image_81 ?_
        refine J_iload_n (pc := 84) X (j := 1) (i := 1) rfl rfl dX13_image_84 ?_
        refine J_iconst (pc := 85) X (v := 1) (by decide) dX13_image_85 ?_
        obtain ⟨g15, hq⟩ := gd hq
        refine J_zastore (pc := 86) X ly185 g15 dX13_image_86 ?_
        refine J_ltH hq (fun h16 hq => ?_)
        refine J_iconst (pc := 87) X (v := 1) (by decide) dX13_image_87 ?_
        obtain rfl := Option.some.inj hq
        exact J_zret (pc := 88) X (by decide) dX13_image_88
  · have hq := ite_t hq c4
    refine J_iconst (pc := 14) X (v := 0) (by decide) dX13_image_14 ?_
    obtain rfl := Option.some.inj hq
    exact J_zret (pc := 15) X (by decide) dX13_image_15
theorem m_X13_image (x1 : Int32) (h : Hp) (q : (Int32 × Hp)) (hq : f_X13_image x1 h = some q) : ∀ l w, CT l w yX13_image cX13_image 3 (some .boolean) 2 [.inr (.inr 155), .inl x1] h (some (.inl q.1), q.2) :=
  CT_of (L0 := [(0, .inr (.inr 155)), (1, .inl x1)]) (by decide) rfl (Nat.le_of_ble_eq_true rfl) (fun κ X => tf_X13_image X x1 h q  hq)
theorem tF_X13_restore_27 {κ : Kx} (X : OK κ cX13_restore 3 (some .boolean) "StruckWordsModel" 2) (x1 : Int32) (k58 : Hp → Option (Int32 × Hp)) (self : Int32 → Hp → Option (Int32 × Hp)) (x2 : Int32) (h : Hp) (q : (Int32 × Hp)) (hk58 : ∀ (h : Hp) (q : (Int32 × Hp)), k58 h = some q → J κ 58 [(0, .inr (.inr 155)), (1, .inl x1)] [] h (some (.inl q.1), q.2)) (hself : ∀ (x2 : Int32) (h : Hp) (q : (Int32 × Hp)), self x2 h = some q → J κ 27 [(0, .inr (.inr 155)), (1, .inl x1), (2, .inl x2)] [] h (some (.inl q.1), q.2)) (hq : F_X13_restore_27 x1 k58 self x2 h = some q) : J κ 27 [(0, .inr (.inr 155)), (1, .inl x1), (2, .inl x2)] [] h (some (.inl q.1), q.2) := by
  delta F_X13_restore_27 at hq
  refine J_iload_n (pc := 27) X (j := 2) (i := 2) rfl rfl dX13_restore_27 ?_
  refine J_sipush (pc := 28) X (v := 713) (by decide) dX13_restore_28 ?_
  refine J_icmp_ge (pc := 31) (tgt := 58) X dX13_restore_31 rfl (fun c7 => ?_) (fun c7 => ?_)
  · have hq := ite_t hq c7
    refine J_sub [0, 1] rfl ?_
    exact hk58 _ _ hq
  · have hq := ite_f hq c7
    refine J_aload_n (pc := 34) X (j := 0) (i := 0) rfl rfl dX13_restore_34 ?_
    refine J_getF (pc := 35) X (b := 157) ly155 fl_13_33 rfl dX13_restore_35 ?_
    refine J_iload_n (pc := 38) X (j := 2) (i := 2) rfl rfl dX13_restore_38 ?_
    refine J_aload_n (pc := 39) X (j := 0) (i := 0) rfl rfl dX13_restore_39 ?_
    refine J_getF (pc := 40) X (b := 183) ly155 fl_13_117 rfl dX13_restore_40 ?_
    refine J_sipush (pc := 43) X (v := 713) (by decide) dX13_restore_43 ?_
    refine J_iload_n (pc := 46) X (j := 1) (i := 1) rfl rfl dX13_restore_46 ?_
    refine J_imul (pc := 47) X dX13_restore_47 ?_
    refine J_iload_n (pc := 48) X (j := 2) (i := 2) rfl rfl dX13_restore_48 ?_
    refine J_iadd (pc := 49) X dX13_restore_49 ?_
    obtain ⟨g8, hq⟩ := gd hq
    refine J_iaload (pc := 50) X ly183 g8 dX13_restore_50 ?_
    obtain ⟨g9, hq⟩ := gd hq
    refine J_iastore (pc := 51) X ly157 g9 dX13_restore_51 ?_
    refine J_ltH hq (fun h10 hq => ?_)
    refine J_iinc (pc := 52) X (j := 2) (v := 1) (L' := [(2, .inl (x2 + 1)), (0, .inr (.inr 155)), (1, .inl x1)]) rfl (by decide) (by decide) rfl dX13_restore_52 ?_
    refine J_goto (pc := 55) X (tgt := 27) dX13_restore_55 rfl ?_
    refine J_sub [1, 2, 0] rfl ?_
    exact hself _ _ _ hq
theorem tL_X13_restore_27 {κ : Kx} (X : OK κ cX13_restore 3 (some .boolean) "StruckWordsModel" 2) (x1 : Int32) (k58 : Hp → Option (Int32 × Hp)) (N : Nat) (x2 : Int32) (h : Hp) (q : (Int32 × Hp)) (hk58 : ∀ (h : Hp) (q : (Int32 × Hp)), k58 h = some q → J κ 58 [(0, .inr (.inr 155)), (1, .inl x1)] [] h (some (.inl q.1), q.2)) (hq : itr2 (F_X13_restore_27 x1 k58) N x2 h = some q) : J κ 27 [(0, .inr (.inr 155)), (1, .inl x1), (2, .inl x2)] [] h (some (.inl q.1), q.2) :=
  itr2_ind (fun self hs x2 h q hq => tF_X13_restore_27 X x1 k58 self x2 h q hk58 hs hq) N x2 h q hq
theorem tF_X13_restore_60 {κ : Kx} (X : OK κ cX13_restore 3 (some .boolean) "StruckWordsModel" 2) (x1 : Int32) (k89 : Hp → Option (Int32 × Hp)) (self : Int32 → Hp → Option (Int32 × Hp)) (x2 : Int32) (h : Hp) (q : (Int32 × Hp)) (hk89 : ∀ (h : Hp) (q : (Int32 × Hp)), k89 h = some q → J κ 89 [(0, .inr (.inr 155))] [] h (some (.inl q.1), q.2)) (hself : ∀ (x2 : Int32) (h : Hp) (q : (Int32 × Hp)), self x2 h = some q → J κ 60 [(0, .inr (.inr 155)), (1, .inl x1), (2, .inl x2)] [] h (some (.inl q.1), q.2)) (hq : F_X13_restore_60 x1 k89 self x2 h = some q) : J κ 60 [(0, .inr (.inr 155)), (1, .inl x1), (2, .inl x2)] [] h (some (.inl q.1), q.2) := by
  delta F_X13_restore_60 at hq
  refine J_iload_n (pc := 60) X (j := 2) (i := 2) rfl rfl dX13_restore_60 ?_
  refine J_bipush (pc := 61) X (v := 16) (by decide) dX13_restore_61 ?_
  refine J_icmp_ge (pc := 63) (tgt := 89) X dX13_restore_63 rfl (fun c12 => ?_) (fun c12 => ?_)
  · have hq := ite_t hq c12
    refine J_sub [0] rfl ?_
    exact hk89 _ _ hq
  · have hq := ite_f hq c12
    refine J_aload_n (pc := 66) X (j := 0) (i := 0) rfl rfl dX13_restore_66 ?_
    refine J_getF (pc := 67) X (b := 159) ly155 fl_13_40 rfl dX13_restore_67 ?_
    refine J_iload_n (pc := 70) X (j := 2) (i := 2) rfl rfl dX13_restore_70 ?_
    refine J_aload_n (pc := 71) X (j := 0) (i := 0) rfl rfl dX13_restore_71 ?_
    refine J_getF (pc := 72) X (b := 184) ly155 fl_13_120 rfl dX13_restore_72 ?_
    refine J_bipush (pc := 75) X (v := 16) (by decide) dX13_restore_75 ?_
    refine J_iload_n (pc := 77) X (j := 1) (i := 1) rfl rfl dX13_restore_77 ?_
    refine J_imul (pc := 78) X dX13_restore_78 ?_
    refine J_iload_n (pc := 79) X (j := 2) (i := 2) rfl rfl dX13_restore_79 ?_
    refine J_iadd (pc := 80) X dX13_restore_80 ?_
    obtain ⟨g13, hq⟩ := gd hq
    refine J_laload (pc := 81) X ly184 g13 dX13_restore_81 ?_
    obtain ⟨g14, hq⟩ := gd hq
    refine J_lastore (pc := 82) X ly159 g14 dX13_restore_82 ?_
    refine J_ltH hq (fun h15 hq => ?_)
    refine J_iinc (pc := 83) X (j := 2) (v := 1) (L' := [(2, .inl (x2 + 1)), (0, .inr (.inr 155)), (1, .inl x1)]) rfl (by decide) (by decide) rfl dX13_restore_83 ?_
    refine J_goto (pc := 86) X (tgt := 60) dX13_restore_86 rfl ?_
    refine J_sub [1, 2, 0] rfl ?_
    exact hself _ _ _ hq
theorem tL_X13_restore_60 {κ : Kx} (X : OK κ cX13_restore 3 (some .boolean) "StruckWordsModel" 2) (x1 : Int32) (k89 : Hp → Option (Int32 × Hp)) (N : Nat) (x2 : Int32) (h : Hp) (q : (Int32 × Hp)) (hk89 : ∀ (h : Hp) (q : (Int32 × Hp)), k89 h = some q → J κ 89 [(0, .inr (.inr 155))] [] h (some (.inl q.1), q.2)) (hq : itr2 (F_X13_restore_60 x1 k89) N x2 h = some q) : J κ 60 [(0, .inr (.inr 155)), (1, .inl x1), (2, .inl x2)] [] h (some (.inl q.1), q.2) :=
  itr2_ind (fun self hs x2 h q hq => tF_X13_restore_60 X x1 k89 self x2 h q hk89 hs hq) N x2 h q hq
theorem tf_X13_restore {κ : Kx} (X : OK κ cX13_restore 3 (some .boolean) "StruckWordsModel" 2) (x1 : Int32) (h : Hp) (q : (Int32 × Hp)) (hq : f_X13_restore x1 h = some q) : J κ 0 [(0, .inr (.inr 155)), (1, .inl x1)] [] h (some (.inl q.1), q.2) := by
  delta f_X13_restore at hq
  refine J_aload_n (pc := 0) X (j := 0) (i := 0) rfl rfl dX13_restore_0 ?_
  refine J_iconst (pc := 1) X (v := 0) (by decide) dX13_restore_1 ?_
  refine J_putI (pc := 2) X ly155 fp_13_1 dX13_restore_2 ?_
  refine J_ltH hq (fun h1 hq => ?_)
  refine J_iload_n (pc := 5) X (j := 1) (i := 1) rfl rfl dX13_restore_5 ?_
  refine J_iconst (pc := 6) X (v := 0) (by decide) dX13_restore_6 ?_
  refine J_iconst (pc := 7) X (v := 1) (by decide) dX13_restore_7 ?_
  obtain ⟨v3, h2, hc, hq⟩ := bnd_e hq
  refine J_callS (pc := 8) (as := [.inl x1, .inl 0, .inl 1]) (st := []) (st2 := [.inl v3]) (r1 := (some (.inl v3), h2)) (h2 := h2) (ky := 1) X dX13_restore_8 ca_X13_isIn cz_X13_isIn ml_13_204 (by decide) (m_X13_isIn _ _ _ _ _ hc) rfl rfl (Nat.le_of_ble_eq_true rfl) rfl rfl ?_
  refine J_if_eq (pc := 11) (tgt := 23) X dX13_restore_11 rfl (fun c4 => ?_) (fun c4 => ?_)
  · have hq := ite_t hq c4
    refine J_iconst (pc := 23) X (v := 0) (by decide) dX13_restore_23 ?_
    obtain rfl := Option.some.inj hq
    exact J_zret (pc := 24) X (by decide) dX13_restore_24
  · have hq := ite_f hq c4
    refine J_aload_n (pc := 14) X (j := 0) (i := 0) rfl rfl dX13_restore_14 ?_
    refine J_getF (pc := 15) X (b := 185) ly155 fl_13_123 rfl dX13_restore_15 ?_
    refine J_iload_n (pc := 18) X (j := 1) (i := 1) rfl rfl dX13_restore_18 ?_
    obtain ⟨g5, hq⟩ := gd hq
    refine J_zaload (pc := 19) X ly185 g5 dX13_restore_19 ?_
    refine J_if_ne (pc := 20) (tgt := 25) X dX13_restore_20 rfl (fun c6 => ?_) (fun c6 => ?_)
    · have hq := ite_f hq c6
      refine J_iconst (pc := 25) X (v := 0) (by decide) dX13_restore_25 ?_
      refine J_istore_n (pc := 26) X (L' := [(2, .inl 0), (0, .inr (.inr 155)), (1, .inl x1)]) (i := 2) rfl (by decide) rfl dX13_restore_26 ?_
      refine J_sub [1, 2, 0] rfl ?_
      refine tL_X13_restore_27 X _ _ N0 _ _ _ ?_ hq
      · intro h11 q hq
        refine J_iconst (pc := 58) X (v := 0) (by decide) dX13_restore_58 ?_
        refine J_istore_n (pc := 59) X (L' := [(2, .inl 0), (0, .inr (.inr 155)), (1, .inl x1)]) (i := 2) rfl (by decide) rfl dX13_restore_59 ?_
        refine J_sub [1, 2, 0] rfl ?_
        refine tL_X13_restore_60 X _ _ N0 _ _ _ ?_ hq
        · intro h16 q hq
          refine J_aload_n (pc := 89) X (j := 0) (i := 0) rfl rfl dX13_restore_89 ?_
          refine J_iconst (pc := 90) X (v := 1) (by decide) dX13_restore_90 ?_
          refine J_putZ (pc := 91) X ly155 fp_13_65 (by decide) dX13_restore_91 ?_
          refine J_ltH hq (fun h17 hq => ?_)
          refine J_iconst (pc := 94) X (v := 1) (by decide) dX13_restore_94 ?_
          obtain rfl := Option.some.inj hq
          exact J_zret (pc := 95) X (by decide) dX13_restore_95
    · have hq := ite_t hq c6
      refine J_iconst (pc := 23) X (v := 0) (by decide) dX13_restore_23 ?_
      obtain rfl := Option.some.inj hq
      exact J_zret (pc := 24) X (by decide) dX13_restore_24
theorem m_X13_restore (x1 : Int32) (h : Hp) (q : (Int32 × Hp)) (hq : f_X13_restore x1 h = some q) : ∀ l w, CT l w yX13_restore cX13_restore 3 (some .boolean) 2 [.inr (.inr 155), .inl x1] h (some (.inl q.1), q.2) :=
  CT_of (L0 := [(0, .inr (.inr 155)), (1, .inl x1)]) (by decide) rfl (Nat.le_of_ble_eq_true rfl) (fun κ X => tf_X13_restore X x1 h q  hq)
theorem tf_X13_count_ {κ : Kx} (X : OK κ cX13_count_ 2 (some .int) "StruckWordsModel" 1) (x1 : Int32) (h : Hp) (q : (Int32 × Hp)) (hq : f_X13_count_ x1 h = some q) : J κ 0 [(0, .inr (.inr 155)), (1, .inl x1)] [] h (some (.inl q.1), q.2) := by
  delta f_X13_count_ at hq
  refine J_aload_n (pc := 0) X (j := 0) (i := 0) rfl rfl dX13_count__0 ?_
  refine J_iconst (pc := 1) X (v := 0) (by decide) dX13_count__1 ?_
  refine J_putI (pc := 2) X ly155 fp_13_1 dX13_count__2 ?_
  refine J_ltH hq (fun h1 hq => ?_)
  refine J_iload_n (pc := 5) X (j := 1) (i := 1) rfl rfl dX13_count__5 ?_
  by_cases c2 : x1 = 0
  · have hq := ite_t hq c2
    refine J_tsIn (pc := 6) (tgt := 52) X dX13_count__6 (0) (by rw [c2]; rfl) (by decide) (by decide) rfl rfl ?_
    refine J_aload_n (pc := 52) X (j := 0) (i := 0) rfl rfl dX13_count__52 ?_
    refine J_getF (pc := 53) X (b := 157) ly155 fl_13_33 rfl dX13_count__53 ?_
    refine J_iconst (pc := 56) X (v := 0) (by decide) dX13_count__56 ?_
    refine J_iaload (pc := 57) X ly157 (by decide) dX13_count__57 ?_
    obtain rfl := Option.some.inj hq
    exact J_iret (pc := 58) X dX13_count__58
  · have hq := ite_f hq c2
    by_cases c3 : x1 = 1
    · have hq := ite_t hq c3
      refine J_tsIn (pc := 6) (tgt := 59) X dX13_count__6 (1) (by rw [c3]; rfl) (by decide) (by decide) rfl rfl ?_
      refine J_aload_n (pc := 59) X (j := 0) (i := 0) rfl rfl dX13_count__59 ?_
      refine J_getF (pc := 60) X (b := 157) ly155 fl_13_33 rfl dX13_count__60 ?_
      refine J_iconst (pc := 63) X (v := 1) (by decide) dX13_count__63 ?_
      refine J_iaload (pc := 64) X ly157 (by decide) dX13_count__64 ?_
      obtain rfl := Option.some.inj hq
      exact J_iret (pc := 65) X dX13_count__65
    · have hq := ite_f hq c3
      by_cases c4 : x1 = 2
      · have hq := ite_t hq c4
        refine J_tsIn (pc := 6) (tgt := 66) X dX13_count__6 (2) (by rw [c4]; rfl) (by decide) (by decide) rfl rfl ?_
        refine J_aload_n (pc := 66) X (j := 0) (i := 0) rfl rfl dX13_count__66 ?_
        refine J_getF (pc := 67) X (b := 157) ly155 fl_13_33 rfl dX13_count__67 ?_
        refine J_iconst (pc := 70) X (v := 2) (by decide) dX13_count__70 ?_
        refine J_iaload (pc := 71) X ly157 (by decide) dX13_count__71 ?_
        obtain rfl := Option.some.inj hq
        exact J_iret (pc := 72) X dX13_count__72
      · have hq := ite_f hq c4
        by_cases c5 : x1 = 3
        · have hq := ite_t hq c5
          refine J_tsIn (pc := 6) (tgt := 73) X dX13_count__6 (3) (by rw [c5]; rfl) (by decide) (by decide) rfl rfl ?_
          refine J_aload_n (pc := 73) X (j := 0) (i := 0) rfl rfl dX13_count__73 ?_
          refine J_getF (pc := 74) X (b := 157) ly155 fl_13_33 rfl dX13_count__74 ?_
          refine J_iconst (pc := 77) X (v := 3) (by decide) dX13_count__77 ?_
          refine J_iaload (pc := 78) X ly157 (by decide) dX13_count__78 ?_
          obtain rfl := Option.some.inj hq
          exact J_iret (pc := 79) X dX13_count__79
        · have hq := ite_f hq c5
          by_cases c6 : x1 = 4
          · have hq := ite_t hq c6
            refine J_tsIn (pc := 6) (tgt := 80) X dX13_count__6 (4) (by rw [c6]; rfl) (by decide) (by decide) rfl rfl ?_
            refine J_aload_n (pc := 80) X (j := 0) (i := 0) rfl rfl dX13_count__80 ?_
            refine J_getF (pc := 81) X (b := 157) ly155 fl_13_33 rfl dX13_count__81 ?_
            refine J_iconst (pc := 84) X (v := 4) (by decide) dX13_count__84 ?_
            refine J_iaload (pc := 85) X ly157 (by decide) dX13_count__85 ?_
            obtain rfl := Option.some.inj hq
            exact J_iret (pc := 86) X dX13_count__86
          · have hq := ite_f hq c6
            by_cases c7 : x1 = 5
            · have hq := ite_t hq c7
              refine J_tsIn (pc := 6) (tgt := 87) X dX13_count__6 (5) (by rw [c7]; rfl) (by decide) (by decide) rfl rfl ?_
              refine J_aload_n (pc := 87) X (j := 0) (i := 0) rfl rfl dX13_count__87 ?_
              refine J_getF (pc := 88) X (b := 157) ly155 fl_13_33 rfl dX13_count__88 ?_
              refine J_sipush (pc := 91) X (v := 437) (by decide) dX13_count__91 ?_
              refine J_iaload (pc := 94) X ly157 (by decide) dX13_count__94 ?_
              obtain rfl := Option.some.inj hq
              exact J_iret (pc := 95) X dX13_count__95
            · have hq := ite_f hq c7
              by_cases c8 : x1 = 6
              · have hq := ite_t hq c8
                refine J_tsIn (pc := 6) (tgt := 96) X dX13_count__6 (6) (by rw [c8]; rfl) (by decide) (by decide) rfl rfl ?_
                refine J_aload_n (pc := 96) X (j := 0) (i := 0) rfl rfl dX13_count__96 ?_
                refine J_getF (pc := 97) X (b := 157) ly155 fl_13_33 rfl dX13_count__97 ?_
                refine J_sipush (pc := 100) X (v := 462) (by decide) dX13_count__100 ?_
                refine J_iaload (pc := 103) X ly157 (by decide) dX13_count__103 ?_
                obtain rfl := Option.some.inj hq
                exact J_iret (pc := 104) X dX13_count__104
              · have hq := ite_f hq c8
                by_cases c9 : x1 = 7
                · have hq := ite_t hq c9
                  refine J_tsIn (pc := 6) (tgt := 105) X dX13_count__6 (7) (by rw [c9]; rfl) (by decide) (by decide) rfl rfl ?_
                  refine J_aload_n (pc := 105) X (j := 0) (i := 0) rfl rfl dX13_count__105 ?_
                  refine J_getI (pc := 106) X ly155 fl_13_7 dX13_count__106 ?_
                  obtain rfl := Option.some.inj hq
                  exact J_iret (pc := 109) X dX13_count__109
                · have hq := ite_f hq c9
                  refine J_tsOut (pc := 6) (tgt := 110) X dX13_count__6 (by
                      have e0 := ne_toInt c2; rw [show (0 : Int32).toInt = 0 from rfl] at e0
                      have e1 := ne_toInt c3; rw [show (1 : Int32).toInt = 1 from rfl] at e1
                      have e2 := ne_toInt c4; rw [show (2 : Int32).toInt = 2 from rfl] at e2
                      have e3 := ne_toInt c5; rw [show (3 : Int32).toInt = 3 from rfl] at e3
                      have e4 := ne_toInt c6; rw [show (4 : Int32).toInt = 4 from rfl] at e4
                      have e5 := ne_toInt c7; rw [show (5 : Int32).toInt = 5 from rfl] at e5
                      have e6 := ne_toInt c8; rw [show (6 : Int32).toInt = 6 from rfl] at e6
                      have e7 := ne_toInt c9; rw [show (7 : Int32).toInt = 7 from rfl] at e7
                      omega) rfl ?_
                  refine J_iconst (pc := 110) X (v := (-1)) (by decide) dX13_count__110 ?_
                  obtain rfl := Option.some.inj hq
                  exact J_iret (pc := 111) X dX13_count__111
theorem m_X13_count_ (x1 : Int32) (h : Hp) (q : (Int32 × Hp)) (hq : f_X13_count_ x1 h = some q) : ∀ l w, CT l w yX13_count_ cX13_count_ 2 (some .int) 1 [.inr (.inr 155), .inl x1] h (some (.inl q.1), q.2) :=
  CT_of (L0 := [(0, .inr (.inr 155)), (1, .inl x1)]) (by decide) rfl (Nat.le_of_ble_eq_true rfl) (fun κ X => tf_X13_count_ X x1 h q  hq)
