theorem tF_X13_countTorn_36 {κ : Kx} (X : OK κ cX13_countTorn 8 (some .long) "StruckWordsModel" 2) (x1 : Int32) (x2 : Int32) (x3 : Int32) (k92 : Int64 → Hp → Option (Int64 × Hp)) (self : Int64 → Int32 → Hp → Option (Int64 × Hp)) (x4 : Int64) (x6 : Int32) (h : Hp) (q : (Int64 × Hp)) (hk92 : ∀ (x4 : Int64) (h : Hp) (q : (Int64 × Hp)), k92 x4 h = some q → J κ 92 [(0, .inr (.inr 155)), (1, .inl x1), (2, .inl x2), (3, .inl x3), (4, .inr (.inl x4))] [] h (some (.inr (.inl q.1)), q.2)) (hself : ∀ (x4 : Int64) (x6 : Int32) (h : Hp) (q : (Int64 × Hp)), self x4 x6 h = some q → J κ 36 [(0, .inr (.inr 155)), (1, .inl x1), (2, .inl x2), (3, .inl x3), (4, .inr (.inl x4)), (6, .inl x6)] [] h (some (.inr (.inl q.1)), q.2)) (hq : F_X13_countTorn_36 x1 x2 x3 k92 self x4 x6 h = some q) : J κ 36 [(0, .inr (.inr 155)), (1, .inl x1), (2, .inl x2), (3, .inl x3), (4, .inr (.inl x4)), (6, .inl x6)] [] h (some (.inr (.inl q.1)), q.2) := by
  delta F_X13_countTorn_36 at hq
  refine J_iload (pc := 36) X (j := 5) rfl dX13_countTorn_36 ?_
  refine J_iconst (pc := 38) X (v := 5) (by decide) dX13_countTorn_38 ?_
  refine J_icmp_ge (pc := 39) (tgt := 92) X dX13_countTorn_39 rfl (fun c4 => ?_) (fun c4 => ?_)
  · have hq := ite_t hq c4
    refine J_sub [0, 1, 2, 3, 4] rfl ?_
    exact hk92 _ _ _ hq
  · have hq := ite_f hq c4
    refine J_iload_n (pc := 42) X (j := 2) (i := 2) rfl rfl dX13_countTorn_42 ?_
    refine J_if_le (pc := 43) (tgt := 92) X dX13_countTorn_43 rfl (fun c5 => ?_) (fun c5 => ?_)
    · have hq := ite_t hq c5
      refine J_sub [0, 1, 2, 3, 4] rfl ?_
      exact hk92 _ _ _ hq
    · have hq := ite_f hq c5
      refine J_lload (pc := 46) X (j := 4) rfl dX13_countTorn_46 ?_
      refine J_aload_n (pc := 48) X (j := 0) (i := 0) rfl rfl dX13_countTorn_48 ?_
      refine J_getF (pc := 49) X (b := 157) ly155 fl_13_33 rfl dX13_countTorn_49 ?_
      refine J_bipush (pc := 52) X (v := 15) (by decide) dX13_countTorn_52 ?_
      refine J_iconst (pc := 54) X (v := 5) (by decide) dX13_countTorn_54 ?_
      refine J_iload (pc := 55) X (j := 5) rfl dX13_countTorn_55 ?_
      refine J_imul (pc := 57) X dX13_countTorn_57 ?_
      refine J_iadd (pc := 58) X dX13_countTorn_58 ?_
      refine J_iload_n (pc := 59) X (j := 3) (i := 3) rfl rfl dX13_countTorn_59 ?_
      refine J_iadd (pc := 60) X dX13_countTorn_60 ?_
      obtain ⟨g6, hq⟩ := gd hq
      refine J_iaload (pc := 61) X ly157 g6 dX13_countTorn_61 ?_
      refine J_iconst (pc := 62) X (v := 1) (by decide) dX13_countTorn_62 ?_
      refine J_icmp_ne (pc := 63) (tgt := 82) X dX13_countTorn_63 rfl (fun c7 => ?_) (fun c7 => ?_)
      · have hq := ite_f hq c7
        refine J_lconst (pc := 82) X (v := 0) (by decide) dX13_countTorn_82 ?_
        refine J_ladd (pc := 83) X dX13_countTorn_83 ?_
        refine J_lstore (pc := 84) X (L' := [(4, .inr (.inl (x4 + 0))), (0, .inr (.inr 155)), (1, .inl x1), (2, .inl x2), (3, .inl x3), (6, .inl x6)]) (by decide) rfl dX13_countTorn_84 ?_
        refine J_iinc (pc := 86) X (j := 5) (v := 1) (L' := [(6, .inl (x6 + 1)), (4, .inr (.inl (x4 + 0))), (0, .inr (.inr 155)), (1, .inl x1), (2, .inl x2), (3, .inl x3)]) rfl (by decide) (by decide) rfl dX13_countTorn_86 ?_
        refine J_goto (pc := 89) X (tgt := 36) dX13_countTorn_89 rfl ?_
        refine J_sub [2, 3, 4, 5, 1, 0] rfl ?_
        exact hself _ _ _ _ hq
      · have hq := ite_t hq c7
        refine J_aload_n (pc := 66) X (j := 0) (i := 0) rfl rfl dX13_countTorn_66 ?_
        refine J_getF (pc := 67) X (b := 181) ly155 fl_13_111 rfl dX13_countTorn_67 ?_
        refine J_iconst (pc := 70) X (v := 5) (by decide) dX13_countTorn_70 ?_
        refine J_iload_n (pc := 71) X (j := 2) (i := 2) rfl rfl dX13_countTorn_71 ?_
        refine J_iconst (pc := 72) X (v := 1) (by decide) dX13_countTorn_72 ?_
        refine J_isub (pc := 73) X dX13_countTorn_73 ?_
        refine J_imul (pc := 74) X dX13_countTorn_74 ?_
        refine J_iload (pc := 75) X (j := 5) rfl dX13_countTorn_75 ?_
        refine J_iadd (pc := 77) X dX13_countTorn_77 ?_
        obtain ⟨g8, hq⟩ := gd hq
        refine J_laload (pc := 78) X ly181 g8 dX13_countTorn_78 ?_
        refine J_goto (pc := 79) X (tgt := 83) dX13_countTorn_79 rfl ?_
        refine J_ladd (pc := 83) X dX13_countTorn_83 ?_
        refine J_ltL hq (fun v9 hq => ?_)
        refine J_lstore (pc := 84) X (L' := [(4, .inr (.inl v9)), (0, .inr (.inr 155)), (1, .inl x1), (2, .inl x2), (3, .inl x3), (6, .inl x6)]) (by decide) rfl dX13_countTorn_84 ?_
        refine J_iinc (pc := 86) X (j := 5) (v := 1) (L' := [(6, .inl (x6 + 1)), (4, .inr (.inl v9)), (0, .inr (.inr 155)), (1, .inl x1), (2, .inl x2), (3, .inl x3)]) rfl (by decide) (by decide) rfl dX13_countTorn_86 ?_
        refine J_goto (pc := 89) X (tgt := 36) dX13_countTorn_89 rfl ?_
        refine J_sub [2, 3, 4, 5, 1, 0] rfl ?_
        exact hself _ _ _ _ hq
theorem tL_X13_countTorn_36 {κ : Kx} (X : OK κ cX13_countTorn 8 (some .long) "StruckWordsModel" 2) (x1 : Int32) (x2 : Int32) (x3 : Int32) (k92 : Int64 → Hp → Option (Int64 × Hp)) (N : Nat) (x4 : Int64) (x6 : Int32) (h : Hp) (q : (Int64 × Hp)) (hk92 : ∀ (x4 : Int64) (h : Hp) (q : (Int64 × Hp)), k92 x4 h = some q → J κ 92 [(0, .inr (.inr 155)), (1, .inl x1), (2, .inl x2), (3, .inl x3), (4, .inr (.inl x4))] [] h (some (.inr (.inl q.1)), q.2)) (hq : itr3 (F_X13_countTorn_36 x1 x2 x3 k92) N x4 x6 h = some q) : J κ 36 [(0, .inr (.inr 155)), (1, .inl x1), (2, .inl x2), (3, .inl x3), (4, .inr (.inl x4)), (6, .inl x6)] [] h (some (.inr (.inl q.1)), q.2) :=
  itr3_ind (fun self hs x4 x6 h q hq => tF_X13_countTorn_36 X x1 x2 x3 k92 self x4 x6 h q hk92 hs hq) N x4 x6 h q hq
theorem tF_X13_countTorn_98 {κ : Kx} (X : OK κ cX13_countTorn 8 (some .long) "StruckWordsModel" 2) (x1 : Int32) (x2 : Int32) (x3 : Int32) (x4 : Int64) (k148 : Int32 → Hp → Option (Int64 × Hp)) (self : Int32 → Int32 → Hp → Option (Int64 × Hp)) (x6 : Int32) (x7 : Int32) (h : Hp) (q : (Int64 × Hp)) (hk148 : ∀ (x6 : Int32) (h : Hp) (q : (Int64 × Hp)), k148 x6 h = some q → J κ 148 [(0, .inr (.inr 155)), (1, .inl x1), (2, .inl x2), (3, .inl x3), (4, .inr (.inl x4)), (6, .inl x6)] [] h (some (.inr (.inl q.1)), q.2)) (hself : ∀ (x6 : Int32) (x7 : Int32) (h : Hp) (q : (Int64 × Hp)), self x6 x7 h = some q → J κ 98 [(0, .inr (.inr 155)), (1, .inl x1), (2, .inl x2), (3, .inl x3), (4, .inr (.inl x4)), (6, .inl x6), (7, .inl x7)] [] h (some (.inr (.inl q.1)), q.2)) (hq : F_X13_countTorn_98 x1 x2 x3 x4 k148 self x6 x7 h = some q) : J κ 98 [(0, .inr (.inr 155)), (1, .inl x1), (2, .inl x2), (3, .inl x3), (4, .inr (.inl x4)), (6, .inl x6), (7, .inl x7)] [] h (some (.inr (.inl q.1)), q.2) := by
  delta F_X13_countTorn_98 at hq
  refine J_iload (pc := 98) X (j := 6) rfl dX13_countTorn_98 ?_
  refine J_aload_n (pc := 100) X (j := 0) (i := 0) rfl rfl dX13_countTorn_100 ?_
  refine J_getF (pc := 101) X (b := 157) ly155 fl_13_33 rfl dX13_countTorn_101 ?_
  refine J_iconst (pc := 104) X (v := 2) (by decide) dX13_countTorn_104 ?_
  refine J_iaload (pc := 105) X ly157 (by decide) dX13_countTorn_105 ?_
  refine J_icmp_ge (pc := 106) (tgt := 148) X dX13_countTorn_106 rfl (fun c12 => ?_) (fun c12 => ?_)
  · have hq := ite_t hq c12
    refine J_sub [0, 1, 2, 3, 4, 5] rfl ?_
    exact hk148 _ _ _ hq
  · have hq := ite_f hq c12
    refine J_iload (pc := 109) X (j := 5) rfl dX13_countTorn_109 ?_
    refine J_aload_n (pc := 111) X (j := 0) (i := 0) rfl rfl dX13_countTorn_111 ?_
    refine J_iload_n (pc := 112) X (j := 2) (i := 2) rfl rfl dX13_countTorn_112 ?_
    refine J_iload (pc := 113) X (j := 6) rfl dX13_countTorn_113 ?_
    obtain ⟨v14, h13, hc, hq⟩ := bnd_e hq
    refine J_callV (pc := 115) (as := [.inl x2, .inl x7]) (st := [.inl x6]) (st2 := [.inl v14, .inl x6]) (r1 := (some (.inl v14), h13)) (h2 := h13) (ky := 1) X dX13_countTorn_115 ca_X13_mayBe ci_X13_mayBe cs_X13_mayBe ml_13_402 (by decide) ly155 rfl rfl (m_X13_mayBe _ _ _ _ hc) rfl rfl (Nat.le_of_ble_eq_true rfl) rfl rfl ?_
    refine J_if_eq (pc := 118) (tgt := 138) X dX13_countTorn_118 rfl (fun c15 => ?_) (fun c15 => ?_)
    · have hq := ite_t hq c15
      refine J_iconst (pc := 138) X (v := 0) (by decide) dX13_countTorn_138 ?_
      refine J_iadd (pc := 139) X dX13_countTorn_139 ?_
      refine J_istore (pc := 140) X (L' := [(6, .inl (x6 + 0)), (0, .inr (.inr 155)), (1, .inl x1), (2, .inl x2), (3, .inl x3), (4, .inr (.inl x4)), (7, .inl x7)]) (by decide) rfl dX13_countTorn_140 ?_
      refine J_iinc (pc := 142) X (j := 6) (v := 1) (L' := [(7, .inl (x7 + 1)), (6, .inl (x6 + 0)), (0, .inr (.inr 155)), (1, .inl x1), (2, .inl x2), (3, .inl x3), (4, .inr (.inl x4))]) rfl (by decide) (by decide) rfl dX13_countTorn_142 ?_
      refine J_goto (pc := 145) X (tgt := 98) dX13_countTorn_145 rfl ?_
      refine J_sub [2, 3, 4, 5, 6, 1, 0] rfl ?_
      exact hself _ _ _ _ hq
    · have hq := ite_f hq c15
      refine J_aload_n (pc := 121) X (j := 0) (i := 0) rfl rfl dX13_countTorn_121 ?_
      refine J_getF (pc := 122) X (b := 157) ly155 fl_13_33 rfl dX13_countTorn_122 ?_
      refine J_bipush (pc := 125) X (v := 72) (by decide) dX13_countTorn_125 ?_
      refine J_iconst (pc := 127) X (v := 5) (by decide) dX13_countTorn_127 ?_
      refine J_iload (pc := 128) X (j := 6) rfl dX13_countTorn_128 ?_
      refine J_imul (pc := 130) X dX13_countTorn_130 ?_
      refine J_iadd (pc := 131) X dX13_countTorn_131 ?_
      refine J_iload_n (pc := 132) X (j := 3) (i := 3) rfl rfl dX13_countTorn_132 ?_
      refine J_iadd (pc := 133) X dX13_countTorn_133 ?_
      obtain ⟨g16, hq⟩ := gd hq
      refine J_iaload (pc := 134) X ly157 g16 dX13_countTorn_134 ?_
      refine J_goto (pc := 135) X (tgt := 139) dX13_countTorn_135 rfl ?_
      refine J_iadd (pc := 139) X dX13_countTorn_139 ?_
      refine J_ltI hq (fun v17 hq => ?_)
      refine J_istore (pc := 140) X (L' := [(6, .inl v17), (0, .inr (.inr 155)), (1, .inl x1), (2, .inl x2), (3, .inl x3), (4, .inr (.inl x4)), (7, .inl x7)]) (by decide) rfl dX13_countTorn_140 ?_
      refine J_iinc (pc := 142) X (j := 6) (v := 1) (L' := [(7, .inl (x7 + 1)), (6, .inl v17), (0, .inr (.inr 155)), (1, .inl x1), (2, .inl x2), (3, .inl x3), (4, .inr (.inl x4))]) rfl (by decide) (by decide) rfl dX13_countTorn_142 ?_
      refine J_goto (pc := 145) X (tgt := 98) dX13_countTorn_145 rfl ?_
      refine J_sub [2, 3, 4, 5, 6, 1, 0] rfl ?_
      exact hself _ _ _ _ hq
theorem tL_X13_countTorn_98 {κ : Kx} (X : OK κ cX13_countTorn 8 (some .long) "StruckWordsModel" 2) (x1 : Int32) (x2 : Int32) (x3 : Int32) (x4 : Int64) (k148 : Int32 → Hp → Option (Int64 × Hp)) (N : Nat) (x6 : Int32) (x7 : Int32) (h : Hp) (q : (Int64 × Hp)) (hk148 : ∀ (x6 : Int32) (h : Hp) (q : (Int64 × Hp)), k148 x6 h = some q → J κ 148 [(0, .inr (.inr 155)), (1, .inl x1), (2, .inl x2), (3, .inl x3), (4, .inr (.inl x4)), (6, .inl x6)] [] h (some (.inr (.inl q.1)), q.2)) (hq : itr3 (F_X13_countTorn_98 x1 x2 x3 x4 k148) N x6 x7 h = some q) : J κ 98 [(0, .inr (.inr 155)), (1, .inl x1), (2, .inl x2), (3, .inl x3), (4, .inr (.inl x4)), (6, .inl x6), (7, .inl x7)] [] h (some (.inr (.inl q.1)), q.2) :=
  itr3_ind (fun self hs x6 x7 h q hq => tF_X13_countTorn_98 X x1 x2 x3 x4 k148 self x6 x7 h q hk148 hs hq) N x6 x7 h q hq
theorem tF_X13_countTorn_9 {κ : Kx} (X : OK κ cX13_countTorn 8 (some .long) "StruckWordsModel" 2) (x1 : Int32) (x2 : Int32) (k170 : Hp → Option (Int64 × Hp)) (self : Int32 → Hp → Option (Int64 × Hp)) (x3 : Int32) (h : Hp) (q : (Int64 × Hp)) (hk170 : ∀ (h : Hp) (q : (Int64 × Hp)), k170 h = some q → J κ 170 [(0, .inr (.inr 155)), (1, .inl x1), (2, .inl x2)] [] h (some (.inr (.inl q.1)), q.2)) (hself : ∀ (x3 : Int32) (h : Hp) (q : (Int64 × Hp)), self x3 h = some q → J κ 9 [(0, .inr (.inr 155)), (1, .inl x1), (2, .inl x2), (3, .inl x3)] [] h (some (.inr (.inl q.1)), q.2)) (hq : F_X13_countTorn_9 x1 x2 k170 self x3 h = some q) : J κ 9 [(0, .inr (.inr 155)), (1, .inl x1), (2, .inl x2), (3, .inl x3)] [] h (some (.inr (.inl q.1)), q.2) := by
  delta F_X13_countTorn_9 at hq
  refine J_iload_n (pc := 9) X (j := 3) (i := 3) rfl rfl dX13_countTorn_9 ?_
  refine J_iconst (pc := 10) X (v := 5) (by decide) dX13_countTorn_10 ?_
  refine J_icmp_ge (pc := 11) (tgt := 170) X dX13_countTorn_11 rfl (fun c2 => ?_) (fun c2 => ?_)
  · have hq := ite_t hq c2
    refine J_sub [0, 1, 2] rfl ?_
    exact hk170 _ _ hq
  · have hq := ite_f hq c2
    refine J_iload_n (pc := 14) X (j := 2) (i := 2) rfl rfl dX13_countTorn_14 ?_
    refine J_if_ne (pc := 15) (tgt := 30) X dX13_countTorn_15 rfl (fun c3 => ?_) (fun c3 => ?_)
    · have hq := ite_f hq c3
      refine J_lconst (pc := 30) X (v := 0) (by decide) dX13_countTorn_30 ?_
      refine J_lstore (pc := 31) X (L' := [(4, .inr (.inl 0)), (0, .inr (.inr 155)), (1, .inl x1), (2, .inl x2), (3, .inl x3)]) (by decide) rfl dX13_countTorn_31 ?_
      refine J_iconst (pc := 33) X (v := 0) (by decide) dX13_countTorn_33 ?_
      refine J_istore (pc := 34) X (L' := [(6, .inl 0), (4, .inr (.inl 0)), (0, .inr (.inr 155)), (1, .inl x1), (2, .inl x2), (3, .inl x3)]) (by decide) rfl dX13_countTorn_34 ?_
      refine J_sub [2, 3, 4, 5, 1, 0] rfl ?_
      refine tL_X13_countTorn_36 X _ _ _ _ N0 _ _ _ _ ?_ hq
      · intro v11 h10 q hq
        refine J_iconst (pc := 92) X (v := 0) (by decide) dX13_countTorn_92 ?_
        refine J_istore (pc := 93) X (L' := [(6, .inl 0), (0, .inr (.inr 155)), (1, .inl x1), (2, .inl x2), (3, .inl x3), (4, .inr (.inl v11))]) (by decide) rfl dX13_countTorn_93 ?_
        refine J_iconst (pc := 95) X (v := 0) (by decide) dX13_countTorn_95 ?_
        refine J_istore (pc := 96) X (L' := [(7, .inl 0), (6, .inl 0), (0, .inr (.inr 155)), (1, .inl x1), (2, .inl x2), (3, .inl x3), (4, .inr (.inl v11))]) (by decide) rfl dX13_countTorn_96 ?_
        refine J_sub [2, 3, 4, 5, 6, 1, 0] rfl ?_
        refine tL_X13_countTorn_98 X _ _ _ _ _ N0 _ _ _ _ ?_ hq
        · intro v19 h18 q hq
          refine J_aload_n (pc := 148) X (j := 0) (i := 0) rfl rfl dX13_countTorn_148 ?_
          refine J_getF (pc := 149) X (b := 181) ly155 fl_13_111 rfl dX13_countTorn_149 ?_
          refine J_iconst (pc := 152) X (v := 5) (by decide) dX13_countTorn_152 ?_
          refine J_iload_n (pc := 153) X (j := 2) (i := 2) rfl rfl dX13_countTorn_153 ?_
          refine J_imul (pc := 154) X dX13_countTorn_154 ?_
          refine J_iload_n (pc := 155) X (j := 3) (i := 3) rfl rfl dX13_countTorn_155 ?_
          refine J_iadd (pc := 156) X dX13_countTorn_156 ?_
          refine J_lload (pc := 157) X (j := 4) rfl dX13_countTorn_157 ?_
          refine J_iload (pc := 159) X (j := 5) rfl dX13_countTorn_159 ?_
          refine J_i2l (pc := 161) X dX13_countTorn_161 ?_
          refine J_lmul (pc := 162) X dX13_countTorn_162 ?_
          obtain ⟨g20, hq⟩ := gd hq
          refine J_lastore (pc := 163) X ly181 g20 dX13_countTorn_163 ?_
          refine J_ltH hq (fun h21 hq => ?_)
          refine J_iinc (pc := 164) X (j := 3) (v := 1) (L' := [(3, .inl (x3 + 1)), (0, .inr (.inr 155)), (1, .inl x1), (2, .inl x2), (4, .inr (.inl v11)), (6, .inl v19)]) rfl (by decide) (by decide) rfl dX13_countTorn_164 ?_
          refine J_goto (pc := 167) X (tgt := 9) dX13_countTorn_167 rfl ?_
          refine J_sub [1, 2, 3, 0] rfl ?_
          exact hself _ _ _ hq
    · have hq := ite_t hq c3
      refine J_aload_n (pc := 18) X (j := 0) (i := 0) rfl rfl dX13_countTorn_18 ?_
      refine J_getF (pc := 19) X (b := 157) ly155 fl_13_33 rfl dX13_countTorn_19 ?_
      refine J_iconst (pc := 22) X (v := 5) (by decide) dX13_countTorn_22 ?_
      refine J_iload_n (pc := 23) X (j := 3) (i := 3) rfl rfl dX13_countTorn_23 ?_
      refine J_iadd (pc := 24) X dX13_countTorn_24 ?_
      obtain ⟨g22, hq⟩ := gd hq
      refine J_iaload (pc := 25) X ly157 g22 dX13_countTorn_25 ?_
      refine J_i2l (pc := 26) X dX13_countTorn_26 ?_
      refine J_goto (pc := 27) X (tgt := 31) dX13_countTorn_27 rfl ?_
      refine J_ltL hq (fun v23 hq => ?_)
      refine J_lstore (pc := 31) X (L' := [(4, .inr (.inl v23)), (0, .inr (.inr 155)), (1, .inl x1), (2, .inl x2), (3, .inl x3)]) (by decide) rfl dX13_countTorn_31 ?_
      refine J_iconst (pc := 33) X (v := 0) (by decide) dX13_countTorn_33 ?_
      refine J_istore (pc := 34) X (L' := [(6, .inl 0), (4, .inr (.inl v23)), (0, .inr (.inr 155)), (1, .inl x1), (2, .inl x2), (3, .inl x3)]) (by decide) rfl dX13_countTorn_34 ?_
      refine J_sub [2, 3, 4, 5, 1, 0] rfl ?_
      refine tL_X13_countTorn_36 X _ _ _ _ N0 _ _ _ _ ?_ hq
      · intro v25 h24 q hq
        refine J_iconst (pc := 92) X (v := 0) (by decide) dX13_countTorn_92 ?_
        refine J_istore (pc := 93) X (L' := [(6, .inl 0), (0, .inr (.inr 155)), (1, .inl x1), (2, .inl x2), (3, .inl x3), (4, .inr (.inl v25))]) (by decide) rfl dX13_countTorn_93 ?_
        refine J_iconst (pc := 95) X (v := 0) (by decide) dX13_countTorn_95 ?_
        refine J_istore (pc := 96) X (L' := [(7, .inl 0), (6, .inl 0), (0, .inr (.inr 155)), (1, .inl x1), (2, .inl x2), (3, .inl x3), (4, .inr (.inl v25))]) (by decide) rfl dX13_countTorn_96 ?_
        refine J_sub [2, 3, 4, 5, 6, 1, 0] rfl ?_
        refine tL_X13_countTorn_98 X _ _ _ _ _ N0 _ _ _ _ ?_ hq
        · intro v27 h26 q hq
          refine J_aload_n (pc := 148) X (j := 0) (i := 0) rfl rfl dX13_countTorn_148 ?_
          refine J_getF (pc := 149) X (b := 181) ly155 fl_13_111 rfl dX13_countTorn_149 ?_
          refine J_iconst (pc := 152) X (v := 5) (by decide) dX13_countTorn_152 ?_
          refine J_iload_n (pc := 153) X (j := 2) (i := 2) rfl rfl dX13_countTorn_153 ?_
          refine J_imul (pc := 154) X dX13_countTorn_154 ?_
          refine J_iload_n (pc := 155) X (j := 3) (i := 3) rfl rfl dX13_countTorn_155 ?_
          refine J_iadd (pc := 156) X dX13_countTorn_156 ?_
          refine J_lload (pc := 157) X (j := 4) rfl dX13_countTorn_157 ?_
          refine J_iload (pc := 159) X (j := 5) rfl dX13_countTorn_159 ?_
          refine J_i2l (pc := 161) X dX13_countTorn_161 ?_
          refine J_lmul (pc := 162) X dX13_countTorn_162 ?_
          obtain ⟨g28, hq⟩ := gd hq
          refine J_lastore (pc := 163) X ly181 g28 dX13_countTorn_163 ?_
          refine J_ltH hq (fun h29 hq => ?_)
          refine J_iinc (pc := 164) X (j := 3) (v := 1) (L' := [(3, .inl (x3 + 1)), (0, .inr (.inr 155)), (1, .inl x1), (2, .inl x2), (4, .inr (.inl v25)), (6, .inl v27)]) rfl (by decide) (by decide) rfl dX13_countTorn_164 ?_
          refine J_goto (pc := 167) X (tgt := 9) dX13_countTorn_167 rfl ?_
          refine J_sub [1, 2, 3, 0] rfl ?_
          exact hself _ _ _ hq
theorem tL_X13_countTorn_9 {κ : Kx} (X : OK κ cX13_countTorn 8 (some .long) "StruckWordsModel" 2) (x1 : Int32) (x2 : Int32) (k170 : Hp → Option (Int64 × Hp)) (N : Nat) (x3 : Int32) (h : Hp) (q : (Int64 × Hp)) (hk170 : ∀ (h : Hp) (q : (Int64 × Hp)), k170 h = some q → J κ 170 [(0, .inr (.inr 155)), (1, .inl x1), (2, .inl x2)] [] h (some (.inr (.inl q.1)), q.2)) (hq : itr2 (F_X13_countTorn_9 x1 x2 k170) N x3 h = some q) : J κ 9 [(0, .inr (.inr 155)), (1, .inl x1), (2, .inl x2), (3, .inl x3)] [] h (some (.inr (.inl q.1)), q.2) :=
  itr2_ind (fun self hs x3 h q hq => tF_X13_countTorn_9 X x1 x2 k170 self x3 h q hk170 hs hq) N x3 h q hq
theorem tF_X13_countTorn_2 {κ : Kx} (X : OK κ cX13_countTorn 8 (some .long) "StruckWordsModel" 2) (x1 : Int32) (k176 : Hp → Option (Int64 × Hp)) (self : Int32 → Hp → Option (Int64 × Hp)) (x2 : Int32) (h : Hp) (q : (Int64 × Hp)) (hk176 : ∀ (h : Hp) (q : (Int64 × Hp)), k176 h = some q → J κ 176 [(0, .inr (.inr 155)), (1, .inl x1)] [] h (some (.inr (.inl q.1)), q.2)) (hself : ∀ (x2 : Int32) (h : Hp) (q : (Int64 × Hp)), self x2 h = some q → J κ 2 [(0, .inr (.inr 155)), (1, .inl x1), (2, .inl x2)] [] h (some (.inr (.inl q.1)), q.2)) (hq : F_X13_countTorn_2 x1 k176 self x2 h = some q) : J κ 2 [(0, .inr (.inr 155)), (1, .inl x1), (2, .inl x2)] [] h (some (.inr (.inl q.1)), q.2) := by
  delta F_X13_countTorn_2 at hq
  refine J_iload_n (pc := 2) X (j := 2) (i := 2) rfl rfl dX13_countTorn_2 ?_
  refine J_iload_n (pc := 3) X (j := 1) (i := 1) rfl rfl dX13_countTorn_3 ?_
  refine J_icmp_ge (pc := 4) (tgt := 176) X dX13_countTorn_4 rfl (fun c1 => ?_) (fun c1 => ?_)
  · have hq := ite_t hq c1
    refine J_sub [0, 1] rfl ?_
    exact hk176 _ _ hq
  · have hq := ite_f hq c1
    refine J_iconst (pc := 7) X (v := 0) (by decide) dX13_countTorn_7 ?_
    refine J_istore_n (pc := 8) X (L' := [(3, .inl 0), (0, .inr (.inr 155)), (1, .inl x1), (2, .inl x2)]) (i := 3) rfl (by decide) rfl dX13_countTorn_8 ?_
    refine J_sub [1, 2, 3, 0] rfl ?_
    refine tL_X13_countTorn_9 X _ _ _ N0 _ _ _ ?_ hq
    · intro h30 q hq
      refine J_iinc (pc := 170) X (j := 2) (v := 1) (L' := [(2, .inl (x2 + 1)), (0, .inr (.inr 155)), (1, .inl x1)]) rfl (by decide) (by decide) rfl dX13_countTorn_170 ?_
      refine J_goto (pc := 173) X (tgt := 2) dX13_countTorn_173 rfl ?_
      refine J_sub [1, 2, 0] rfl ?_
      exact hself _ _ _ hq
theorem tL_X13_countTorn_2 {κ : Kx} (X : OK κ cX13_countTorn 8 (some .long) "StruckWordsModel" 2) (x1 : Int32) (k176 : Hp → Option (Int64 × Hp)) (N : Nat) (x2 : Int32) (h : Hp) (q : (Int64 × Hp)) (hk176 : ∀ (h : Hp) (q : (Int64 × Hp)), k176 h = some q → J κ 176 [(0, .inr (.inr 155)), (1, .inl x1)] [] h (some (.inr (.inl q.1)), q.2)) (hq : itr2 (F_X13_countTorn_2 x1 k176) N x2 h = some q) : J κ 2 [(0, .inr (.inr 155)), (1, .inl x1), (2, .inl x2)] [] h (some (.inr (.inl q.1)), q.2) :=
  itr2_ind (fun self hs x2 h q hq => tF_X13_countTorn_2 X x1 k176 self x2 h q hk176 hs hq) N x2 h q hq
theorem tF_X13_countTorn_181 {κ : Kx} (X : OK κ cX13_countTorn 8 (some .long) "StruckWordsModel" 2) (x1 : Int32) (k227 : Int64 → Hp → Option (Int64 × Hp)) (self : Int64 → Int32 → Hp → Option (Int64 × Hp)) (x2 : Int64) (x4 : Int32) (h : Hp) (q : (Int64 × Hp)) (hk227 : ∀ (x2 : Int64) (h : Hp) (q : (Int64 × Hp)), k227 x2 h = some q → J κ 227 [(2, .inr (.inl x2))] [] h (some (.inr (.inl q.1)), q.2)) (hself : ∀ (x2 : Int64) (x4 : Int32) (h : Hp) (q : (Int64 × Hp)), self x2 x4 h = some q → J κ 181 [(0, .inr (.inr 155)), (1, .inl x1), (2, .inr (.inl x2)), (4, .inl x4)] [] h (some (.inr (.inl q.1)), q.2)) (hq : F_X13_countTorn_181 x1 k227 self x2 x4 h = some q) : J κ 181 [(0, .inr (.inr 155)), (1, .inl x1), (2, .inr (.inl x2)), (4, .inl x4)] [] h (some (.inr (.inl q.1)), q.2) := by
  delta F_X13_countTorn_181 at hq
  refine J_iload (pc := 181) X (j := 3) rfl dX13_countTorn_181 ?_
  refine J_iconst (pc := 183) X (v := 5) (by decide) dX13_countTorn_183 ?_
  refine J_icmp_ge (pc := 184) (tgt := 227) X dX13_countTorn_184 rfl (fun c32 => ?_) (fun c32 => ?_)
  · have hq := ite_t hq c32
    refine J_sub [2] rfl ?_
    exact hk227 _ _ _ hq
  · have hq := ite_f hq c32
    refine J_lload_n (pc := 187) X (j := 2) (i := 2) rfl rfl dX13_countTorn_187 ?_
    refine J_aload_n (pc := 188) X (j := 0) (i := 0) rfl rfl dX13_countTorn_188 ?_
    refine J_getF (pc := 189) X (b := 157) ly155 fl_13_33 rfl dX13_countTorn_189 ?_
    refine J_bipush (pc := 192) X (v := 10) (by decide) dX13_countTorn_192 ?_
    refine J_iload (pc := 194) X (j := 3) rfl dX13_countTorn_194 ?_
    refine J_iadd (pc := 196) X dX13_countTorn_196 ?_
    obtain ⟨g33, hq⟩ := gd hq
    refine J_iaload (pc := 197) X ly157 g33 dX13_countTorn_197 ?_
    refine J_iconst (pc := 198) X (v := 1) (by decide) dX13_countTorn_198 ?_
    refine J_icmp_ne (pc := 199) (tgt := 218) X dX13_countTorn_199 rfl (fun c34 => ?_) (fun c34 => ?_)
    · have hq := ite_f hq c34
      refine J_lconst (pc := 218) X (v := 0) (by decide) dX13_countTorn_218 ?_
      refine J_ladd (pc := 219) X dX13_countTorn_219 ?_
      refine J_lstore_n (pc := 220) X (L' := [(2, .inr (.inl (x2 + 0))), (0, .inr (.inr 155)), (1, .inl x1), (4, .inl x4)]) (i := 2) rfl (by decide) rfl dX13_countTorn_220 ?_
      refine J_iinc (pc := 221) X (j := 3) (v := 1) (L' := [(4, .inl (x4 + 1)), (2, .inr (.inl (x2 + 0))), (0, .inr (.inr 155)), (1, .inl x1)]) rfl (by decide) (by decide) rfl dX13_countTorn_221 ?_
      refine J_goto (pc := 224) X (tgt := 181) dX13_countTorn_224 rfl ?_
      refine J_sub [2, 3, 1, 0] rfl ?_
      exact hself _ _ _ _ hq
    · have hq := ite_t hq c34
      refine J_aload_n (pc := 202) X (j := 0) (i := 0) rfl rfl dX13_countTorn_202 ?_
      refine J_getF (pc := 203) X (b := 181) ly155 fl_13_111 rfl dX13_countTorn_203 ?_
      refine J_iconst (pc := 206) X (v := 5) (by decide) dX13_countTorn_206 ?_
      refine J_iload_n (pc := 207) X (j := 1) (i := 1) rfl rfl dX13_countTorn_207 ?_
      refine J_iconst (pc := 208) X (v := 1) (by decide) dX13_countTorn_208 ?_
      refine J_isub (pc := 209) X dX13_countTorn_209 ?_
      refine J_imul (pc := 210) X dX13_countTorn_210 ?_
      refine J_iload (pc := 211) X (j := 3) rfl dX13_countTorn_211 ?_
      refine J_iadd (pc := 213) X dX13_countTorn_213 ?_
      obtain ⟨g35, hq⟩ := gd hq
      refine J_laload (pc := 214) X ly181 g35 dX13_countTorn_214 ?_
      refine J_goto (pc := 215) X (tgt := 219) dX13_countTorn_215 rfl ?_
      refine J_ladd (pc := 219) X dX13_countTorn_219 ?_
      refine J_ltL hq (fun v36 hq => ?_)
      refine J_lstore_n (pc := 220) X (L' := [(2, .inr (.inl v36)), (0, .inr (.inr 155)), (1, .inl x1), (4, .inl x4)]) (i := 2) rfl (by decide) rfl dX13_countTorn_220 ?_
      refine J_iinc (pc := 221) X (j := 3) (v := 1) (L' := [(4, .inl (x4 + 1)), (2, .inr (.inl v36)), (0, .inr (.inr 155)), (1, .inl x1)]) rfl (by decide) (by decide) rfl dX13_countTorn_221 ?_
      refine J_goto (pc := 224) X (tgt := 181) dX13_countTorn_224 rfl ?_
      refine J_sub [2, 3, 1, 0] rfl ?_
      exact hself _ _ _ _ hq
theorem tL_X13_countTorn_181 {κ : Kx} (X : OK κ cX13_countTorn 8 (some .long) "StruckWordsModel" 2) (x1 : Int32) (k227 : Int64 → Hp → Option (Int64 × Hp)) (N : Nat) (x2 : Int64) (x4 : Int32) (h : Hp) (q : (Int64 × Hp)) (hk227 : ∀ (x2 : Int64) (h : Hp) (q : (Int64 × Hp)), k227 x2 h = some q → J κ 227 [(2, .inr (.inl x2))] [] h (some (.inr (.inl q.1)), q.2)) (hq : itr3 (F_X13_countTorn_181 x1 k227) N x2 x4 h = some q) : J κ 181 [(0, .inr (.inr 155)), (1, .inl x1), (2, .inr (.inl x2)), (4, .inl x4)] [] h (some (.inr (.inl q.1)), q.2) :=
  itr3_ind (fun self hs x2 x4 h q hq => tF_X13_countTorn_181 X x1 k227 self x2 x4 h q hk227 hs hq) N x2 x4 h q hq
theorem tf_X13_countTorn {κ : Kx} (X : OK κ cX13_countTorn 8 (some .long) "StruckWordsModel" 2) (x1 : Int32) (h : Hp) (q : (Int64 × Hp)) (hq : f_X13_countTorn x1 h = some q) : J κ 0 [(0, .inr (.inr 155)), (1, .inl x1)] [] h (some (.inr (.inl q.1)), q.2) := by
  delta f_X13_countTorn at hq
  refine J_iconst (pc := 0) X (v := 0) (by decide) dX13_countTorn_0 ?_
  refine J_istore_n (pc := 1) X (L' := [(2, .inl 0), (0, .inr (.inr 155)), (1, .inl x1)]) (i := 2) rfl (by decide) rfl dX13_countTorn_1 ?_
  refine J_sub [1, 2, 0] rfl ?_
  refine tL_X13_countTorn_2 X _ _ N0 _ _ _ ?_ hq
  · intro h31 q hq
    refine J_lconst (pc := 176) X (v := 0) (by decide) dX13_countTorn_176 ?_
    refine J_lstore_n (pc := 177) X (L' := [(2, .inr (.inl 0)), (0, .inr (.inr 155)), (1, .inl x1)]) (i := 2) rfl (by decide) rfl dX13_countTorn_177 ?_
    refine J_iconst (pc := 178) X (v := 0) (by decide) dX13_countTorn_178 ?_
    refine J_istore (pc := 179) X (L' := [(4, .inl 0), (2, .inr (.inl 0)), (0, .inr (.inr 155)), (1, .inl x1)]) (by decide) rfl dX13_countTorn_179 ?_
    refine J_sub [2, 3, 1, 0] rfl ?_
    refine tL_X13_countTorn_181 X _ _ N0 _ _ _ _ ?_ hq
    · intro v38 h37 q hq
      refine J_lload_n (pc := 227) X (j := 0) (i := 2) rfl rfl dX13_countTorn_227 ?_
      obtain rfl := Option.some.inj hq
      exact J_lret (pc := 228) X dX13_countTorn_228
theorem m_X13_countTorn (x1 : Int32) (h : Hp) (q : (Int64 × Hp)) (hq : f_X13_countTorn x1 h = some q) : ∀ l w, CT l w yX13_countTorn cX13_countTorn 8 (some .long) 2 [.inr (.inr 155), .inl x1] h (some (.inr (.inl q.1)), q.2) :=
  CT_of (L0 := [(0, .inr (.inr 155)), (1, .inl x1)]) (by decide) rfl (Nat.le_of_ble_eq_true rfl) (fun κ X => tf_X13_countTorn X x1 h q  hq)
theorem tF_X13_meantTorn_19 {κ : Kx} (X : OK κ cX13_meantTorn 8 (some .int) "StruckWordsModel" 2) (x1 : Int32) (x2 : Int64) (x4 : Int32) (k59 : Int64 → Hp → Option (Int32 × Hp)) (self : Int64 → Int32 → Hp → Option (Int32 × Hp)) (x5 : Int64) (x7 : Int32) (h : Hp) (q : (Int32 × Hp)) (hk59 : ∀ (x5 : Int64) (h : Hp) (q : (Int32 × Hp)), k59 x5 h = some q → J κ 59 [(0, .inr (.inr 155)), (1, .inl x1), (4, .inl x4), (5, .inr (.inl x5))] [] h (some (.inl q.1), q.2)) (hself : ∀ (x5 : Int64) (x7 : Int32) (h : Hp) (q : (Int32 × Hp)), self x5 x7 h = some q → J κ 19 [(0, .inr (.inr 155)), (1, .inl x1), (2, .inr (.inl x2)), (4, .inl x4), (5, .inr (.inl x5)), (7, .inl x7)] [] h (some (.inl q.1), q.2)) (hq : F_X13_meantTorn_19 x1 x2 x4 k59 self x5 x7 h = some q) : J κ 19 [(0, .inr (.inr 155)), (1, .inl x1), (2, .inr (.inl x2)), (4, .inl x4), (5, .inr (.inl x5)), (7, .inl x7)] [] h (some (.inl q.1), q.2) := by
  delta F_X13_meantTorn_19 at hq
  refine J_iload (pc := 19) X (j := 5) rfl dX13_meantTorn_19 ?_
  refine J_aload_n (pc := 21) X (j := 0) (i := 0) rfl rfl dX13_meantTorn_21 ?_
  refine J_getF (pc := 22) X (b := 157) ly155 fl_13_33 rfl dX13_meantTorn_22 ?_
  refine J_iconst (pc := 25) X (v := 2) (by decide) dX13_meantTorn_25 ?_
  refine J_iaload (pc := 26) X ly157 (by decide) dX13_meantTorn_26 ?_
  refine J_icmp_ge (pc := 27) (tgt := 59) X dX13_meantTorn_27 rfl (fun c2 => ?_) (fun c2 => ?_)
  · have hq := ite_t hq c2
    refine J_sub [0, 1, 3, 4] rfl ?_
    exact hk59 _ _ _ hq
  · have hq := ite_f hq c2
    refine J_aload_n (pc := 30) X (j := 0) (i := 0) rfl rfl dX13_meantTorn_30 ?_
    refine J_iload (pc := 31) X (j := 3) rfl dX13_meantTorn_31 ?_
    refine J_iload (pc := 33) X (j := 5) rfl dX13_meantTorn_33 ?_
    obtain ⟨v4, h3, hc, hq⟩ := bnd_e hq
    refine J_callV (pc := 35) (as := [.inl x4, .inl x7]) (st := []) (st2 := [.inl v4]) (r1 := (some (.inl v4), h3)) (h2 := h3) (ky := 1) X dX13_meantTorn_35 ca_X13_mayBe ci_X13_mayBe cs_X13_mayBe ml_13_402 (by decide) ly155 rfl rfl (m_X13_mayBe _ _ _ _ hc) rfl rfl (Nat.le_of_ble_eq_true rfl) rfl rfl ?_
    refine J_if_eq (pc := 38) (tgt := 53) X dX13_meantTorn_38 rfl (fun c5 => ?_) (fun c5 => ?_)
    · have hq := ite_t hq c5
      refine J_iinc (pc := 53) X (j := 5) (v := 1) (L' := [(7, .inl (x7 + 1)), (0, .inr (.inr 155)), (1, .inl x1), (2, .inr (.inl x2)), (4, .inl x4), (5, .inr (.inl x5))]) rfl (by decide) (by decide) rfl dX13_meantTorn_53 ?_
      refine J_goto (pc := 56) X (tgt := 19) dX13_meantTorn_56 rfl ?_
      refine J_sub [1, 2, 3, 4, 5, 0] rfl ?_
      exact hself _ _ _ _ hq
    · have hq := ite_f hq c5
      refine J_lload (pc := 41) X (j := 4) rfl dX13_meantTorn_41 ?_
      refine J_aload_n (pc := 43) X (j := 0) (i := 0) rfl rfl dX13_meantTorn_43 ?_
      refine J_lload_n (pc := 44) X (j := 2) (i := 2) rfl rfl dX13_meantTorn_44 ?_
      refine J_iload (pc := 45) X (j := 5) rfl dX13_meantTorn_45 ?_
      obtain ⟨v7, h6, hc, hq⟩ := bnd_e hq
      refine J_callV (pc := 47) (as := [.inr (.inl x2), .inl x7]) (st := [.inr (.inl x5)]) (st2 := [.inr (.inl v7), .inr (.inl x5)]) (r1 := (some (.inr (.inl v7)), h6)) (h2 := h6) (ky := 1) X dX13_meantTorn_47 ca_X13_comes ci_X13_comes cs_X13_comes ml_13_320 (by decide) ly155 rfl rfl (m_X13_comes _ _ _ _ hc) rfl rfl (Nat.le_of_ble_eq_true rfl) rfl rfl ?_
      refine J_lor (pc := 50) X dX13_meantTorn_50 ?_
      refine J_ltL hq (fun v8 hq => ?_)
      refine J_lstore (pc := 51) X (L' := [(5, .inr (.inl v8)), (0, .inr (.inr 155)), (1, .inl x1), (2, .inr (.inl x2)), (4, .inl x4), (7, .inl x7)]) (by decide) rfl dX13_meantTorn_51 ?_
      refine J_iinc (pc := 53) X (j := 5) (v := 1) (L' := [(7, .inl (x7 + 1)), (5, .inr (.inl v8)), (0, .inr (.inr 155)), (1, .inl x1), (2, .inr (.inl x2)), (4, .inl x4)]) rfl (by decide) (by decide) rfl dX13_meantTorn_53 ?_
      refine J_goto (pc := 56) X (tgt := 19) dX13_meantTorn_56 rfl ?_
      refine J_sub [2, 3, 4, 5, 1, 0] rfl ?_
      exact hself _ _ _ _ hq
theorem tL_X13_meantTorn_19 {κ : Kx} (X : OK κ cX13_meantTorn 8 (some .int) "StruckWordsModel" 2) (x1 : Int32) (x2 : Int64) (x4 : Int32) (k59 : Int64 → Hp → Option (Int32 × Hp)) (N : Nat) (x5 : Int64) (x7 : Int32) (h : Hp) (q : (Int32 × Hp)) (hk59 : ∀ (x5 : Int64) (h : Hp) (q : (Int32 × Hp)), k59 x5 h = some q → J κ 59 [(0, .inr (.inr 155)), (1, .inl x1), (4, .inl x4), (5, .inr (.inl x5))] [] h (some (.inl q.1), q.2)) (hq : itr3 (F_X13_meantTorn_19 x1 x2 x4 k59) N x5 x7 h = some q) : J κ 19 [(0, .inr (.inr 155)), (1, .inl x1), (2, .inr (.inl x2)), (4, .inl x4), (5, .inr (.inl x5)), (7, .inl x7)] [] h (some (.inl q.1), q.2) :=
  itr3_ind (fun self hs x5 x7 h q hq => tF_X13_meantTorn_19 X x1 x2 x4 k59 self x5 x7 h q hk59 hs hq) N x5 x7 h q hq
theorem tF_X13_meantTorn_7 {κ : Kx} (X : OK κ cX13_meantTorn 8 (some .int) "StruckWordsModel" 2) (x1 : Int32) (k68 : Int64 → Hp → Option (Int32 × Hp)) (self : Int64 → Int32 → Hp → Option (Int32 × Hp)) (x2 : Int64) (x4 : Int32) (h : Hp) (q : (Int32 × Hp)) (hk68 : ∀ (x2 : Int64) (h : Hp) (q : (Int32 × Hp)), k68 x2 h = some q → J κ 68 [(0, .inr (.inr 155)), (2, .inr (.inl x2))] [] h (some (.inl q.1), q.2)) (hself : ∀ (x2 : Int64) (x4 : Int32) (h : Hp) (q : (Int32 × Hp)), self x2 x4 h = some q → J κ 7 [(0, .inr (.inr 155)), (1, .inl x1), (2, .inr (.inl x2)), (4, .inl x4)] [] h (some (.inl q.1), q.2)) (hq : F_X13_meantTorn_7 x1 k68 self x2 x4 h = some q) : J κ 7 [(0, .inr (.inr 155)), (1, .inl x1), (2, .inr (.inl x2)), (4, .inl x4)] [] h (some (.inl q.1), q.2) := by
  delta F_X13_meantTorn_7 at hq
  refine J_iload (pc := 7) X (j := 3) rfl dX13_meantTorn_7 ?_
  refine J_iload_n (pc := 9) X (j := 1) (i := 1) rfl rfl dX13_meantTorn_9 ?_
  refine J_icmp_ge (pc := 10) (tgt := 68) X dX13_meantTorn_10 rfl (fun c1 => ?_) (fun c1 => ?_)
  · have hq := ite_t hq c1
    refine J_sub [0, 2] rfl ?_
    exact hk68 _ _ _ hq
  · have hq := ite_f hq c1
    refine J_lconst (pc := 13) X (v := 0) (by decide) dX13_meantTorn_13 ?_
    refine J_lstore (pc := 14) X (L' := [(5, .inr (.inl 0)), (0, .inr (.inr 155)), (1, .inl x1), (2, .inr (.inl x2)), (4, .inl x4)]) (by decide) rfl dX13_meantTorn_14 ?_
    refine J_iconst (pc := 16) X (v := 0) (by decide) dX13_meantTorn_16 ?_
    refine J_istore (pc := 17) X (L' := [(7, .inl 0), (5, .inr (.inl 0)), (0, .inr (.inr 155)), (1, .inl x1), (2, .inr (.inl x2)), (4, .inl x4)]) (by decide) rfl dX13_meantTorn_17 ?_
    refine J_sub [2, 3, 4, 5, 1, 0] rfl ?_
    refine tL_X13_meantTorn_19 X _ _ _ _ N0 _ _ _ _ ?_ hq
    · intro v10 h9 q hq
      refine J_lload (pc := 59) X (j := 3) rfl dX13_meantTorn_59 ?_
      refine J_lstore_n (pc := 61) X (L' := [(2, .inr (.inl v10)), (0, .inr (.inr 155)), (1, .inl x1), (4, .inl x4), (5, .inr (.inl v10))]) (i := 2) rfl (by decide) rfl dX13_meantTorn_61 ?_
      refine J_iinc (pc := 62) X (j := 3) (v := 1) (L' := [(4, .inl (x4 + 1)), (2, .inr (.inl v10)), (0, .inr (.inr 155)), (1, .inl x1), (5, .inr (.inl v10))]) rfl (by decide) (by decide) rfl dX13_meantTorn_62 ?_
      refine J_goto (pc := 65) X (tgt := 7) dX13_meantTorn_65 rfl ?_
      refine J_sub [2, 3, 1, 0] rfl ?_
      exact hself _ _ _ _ hq
theorem tL_X13_meantTorn_7 {κ : Kx} (X : OK κ cX13_meantTorn 8 (some .int) "StruckWordsModel" 2) (x1 : Int32) (k68 : Int64 → Hp → Option (Int32 × Hp)) (N : Nat) (x2 : Int64) (x4 : Int32) (h : Hp) (q : (Int32 × Hp)) (hk68 : ∀ (x2 : Int64) (h : Hp) (q : (Int32 × Hp)), k68 x2 h = some q → J κ 68 [(0, .inr (.inr 155)), (2, .inr (.inl x2))] [] h (some (.inl q.1), q.2)) (hq : itr3 (F_X13_meantTorn_7 x1 k68) N x2 x4 h = some q) : J κ 7 [(0, .inr (.inr 155)), (1, .inl x1), (2, .inr (.inl x2)), (4, .inl x4)] [] h (some (.inl q.1), q.2) :=
  itr3_ind (fun self hs x2 x4 h q hq => tF_X13_meantTorn_7 X x1 k68 self x2 x4 h q hk68 hs hq) N x2 x4 h q hq
theorem tf_X13_meantTorn {κ : Kx} (X : OK κ cX13_meantTorn 8 (some .int) "StruckWordsModel" 2) (x1 : Int32) (h : Hp) (q : (Int32 × Hp)) (hq : f_X13_meantTorn x1 h = some q) : J κ 0 [(0, .inr (.inr 155)), (1, .inl x1)] [] h (some (.inl q.1), q.2) := by
  delta f_X13_meantTorn at hq
  refine J_ldc2 (pc := 0) X cl_13_316 dX13_meantTorn_0 ?_
  refine J_lstore_n (pc := 3) X (L' := [(2, .inr (.inl (-1))), (0, .inr (.inr 155)), (1, .inl x1)]) (i := 2) rfl (by decide) rfl dX13_meantTorn_3 ?_
  refine J_iconst (pc := 4) X (v := 0) (by decide) dX13_meantTorn_4 ?_
  refine J_istore (pc := 5) X (L' := [(4, .inl 0), (2, .inr (.inl (-1))), (0, .inr (.inr 155)), (1, .inl x1)]) (by decide) rfl dX13_meantTorn_5 ?_
  refine J_sub [2, 3, 1, 0] rfl ?_
  refine tL_X13_meantTorn_7 X _ _ N0 _ _ _ _ ?_ hq
  · intro v12 h11 q hq
    refine J_aload_n (pc := 68) X (j := 0) (i := 0) rfl rfl dX13_meantTorn_68 ?_
    refine J_lload_n (pc := 69) X (j := 1) (i := 2) rfl rfl dX13_meantTorn_69 ?_
    obtain ⟨v14, h13, hc, hq⟩ := bnd_e hq
    refine J_callV (pc := 70) (as := [.inr (.inl v12)]) (st := []) (st2 := [.inl v14]) (r1 := (some (.inl v14), h13)) (h2 := h13) (ky := 1) X dX13_meantTorn_70 ca_X13_ends ci_X13_ends cs_X13_ends ml_13_324 (by decide) ly155 rfl rfl (m_X13_ends _ _ _ hc) rfl rfl (Nat.le_of_ble_eq_true rfl) rfl rfl ?_
    obtain rfl := Option.some.inj hq
    exact J_iret (pc := 73) X dX13_meantTorn_73
theorem m_X13_meantTorn (x1 : Int32) (h : Hp) (q : (Int32 × Hp)) (hq : f_X13_meantTorn x1 h = some q) : ∀ l w, CT l w yX13_meantTorn cX13_meantTorn 8 (some .int) 2 [.inr (.inr 155), .inl x1] h (some (.inl q.1), q.2) :=
  CT_of (L0 := [(0, .inr (.inr 155)), (1, .inl x1)]) (by decide) rfl (Nat.le_of_ble_eq_true rfl) (fun κ X => tf_X13_meantTorn X x1 h q  hq)
theorem tB_X13_bestFrom_112 {κ : Kx} (X : OK κ cX13_bestFrom 9 (some .long) "StruckWordsModel" 2) (x1 : Int32) (x2 : Int32) (x5 : Int32) (k136 : Int64 → Hp → Option (Int64 × Hp)) (self : Int64 → Int32 → Hp → Option (Int64 × Hp)) (x3 : Int64) (x6 : Int32) (t0 : Int32) (t1 : Int64) (h : Hp) (q : (Int64 × Hp)) (hk136 : ∀ (x3 : Int64) (h : Hp) (q : (Int64 × Hp)), k136 x3 h = some q → J κ 136 [(0, .inr (.inr 155)), (1, .inl x1), (2, .inl x2), (3, .inr (.inl x3)), (5, .inl x5)] [] h (some (.inr (.inl q.1)), q.2)) (hself : ∀ (x3 : Int64) (x6 : Int32) (h : Hp) (q : (Int64 × Hp)), self x3 x6 h = some q → J κ 32 [(0, .inr (.inr 155)), (1, .inl x1), (2, .inl x2), (3, .inr (.inl x3)), (5, .inl x5), (6, .inl x6)] [] h (some (.inr (.inl q.1)), q.2)) (hq : B_X13_bestFrom_112 x1 x2 x5 k136 self x3 x6 t0 t1 h = some q) : J κ 112 [(0, .inr (.inr 155)), (1, .inl x1), (2, .inl x2), (3, .inr (.inl x3)), (5, .inl x5), (6, .inl x6)] [.inl t0, .inr (.inl t1)] h (some (.inr (.inl q.1)), q.2) := by
  delta B_X13_bestFrom_112 at hq
  refine J_i2l (pc := 112) X dX13_bestFrom_112 ?_
  refine J_lmul (pc := 113) X dX13_bestFrom_113 ?_
  refine J_ltL hq (fun v13 hq => ?_)
  refine J_lstore (pc := 114) X (L' := [(7, .inr (.inl v13)), (0, .inr (.inr 155)), (1, .inl x1), (2, .inl x2), (3, .inr (.inl x3)), (5, .inl x5), (6, .inl x6)]) (by decide) rfl dX13_bestFrom_114 ?_
  refine J_lload (pc := 116) X (j := 0) rfl dX13_bestFrom_116 ?_
  refine J_lload_n (pc := 118) X (j := 4) (i := 3) rfl rfl dX13_bestFrom_118 ?_
  refine J_lcmp (pc := 119) X dX13_bestFrom_119 ?_
  refine J_if_le (pc := 120) (tgt := 128) X dX13_bestFrom_120 rfl (fun c14 => ?_) (fun c14 => ?_)
  · have hq := ite_t hq c14
    refine J_lload_n (pc := 128) X (j := 4) (i := 3) rfl rfl dX13_bestFrom_128 ?_
    refine J_lstore_n (pc := 129) X (L' := [(3, .inr (.inl x3)), (7, .inr (.inl v13)), (0, .inr (.inr 155)), (1, .inl x1), (2, .inl x2), (5, .inl x5), (6, .inl x6)]) (i := 3) rfl (by decide) rfl dX13_bestFrom_129 ?_
    refine J_iinc (pc := 130) X (j := 6) (v := 1) (L' := [(6, .inl (x6 + 1)), (3, .inr (.inl x3)), (7, .inr (.inl v13)), (0, .inr (.inr 155)), (1, .inl x1), (2, .inl x2), (5, .inl x5)]) rfl (by decide) (by decide) rfl dX13_bestFrom_130 ?_
    refine J_goto (pc := 133) X (tgt := 32) dX13_bestFrom_133 rfl ?_
    refine J_sub [3, 4, 5, 1, 6, 0] rfl ?_
    exact hself _ _ _ _ hq
  · have hq := ite_f hq c14
    refine J_lload (pc := 123) X (j := 0) rfl dX13_bestFrom_123 ?_
    refine J_goto (pc := 125) X (tgt := 129) dX13_bestFrom_125 rfl ?_
    refine J_lstore_n (pc := 129) X (L' := [(3, .inr (.inl v13)), (7, .inr (.inl v13)), (0, .inr (.inr 155)), (1, .inl x1), (2, .inl x2), (5, .inl x5), (6, .inl x6)]) (i := 3) rfl (by decide) rfl dX13_bestFrom_129 ?_
    refine J_iinc (pc := 130) X (j := 6) (v := 1) (L' := [(6, .inl (x6 + 1)), (3, .inr (.inl v13)), (7, .inr (.inl v13)), (0, .inr (.inr 155)), (1, .inl x1), (2, .inl x2), (5, .inl x5)]) rfl (by decide) (by decide) rfl dX13_bestFrom_130 ?_
    refine J_goto (pc := 133) X (tgt := 32) dX13_bestFrom_133 rfl ?_
    refine J_sub [3, 4, 5, 1, 6, 0] rfl ?_
    exact hself _ _ _ _ hq
theorem tF_X13_bestFrom_32 {κ : Kx} (X : OK κ cX13_bestFrom 9 (some .long) "StruckWordsModel" 2) (x1 : Int32) (x2 : Int32) (x5 : Int32) (k136 : Int64 → Hp → Option (Int64 × Hp)) (self : Int64 → Int32 → Hp → Option (Int64 × Hp)) (x3 : Int64) (x6 : Int32) (h : Hp) (q : (Int64 × Hp)) (hk136 : ∀ (x3 : Int64) (h : Hp) (q : (Int64 × Hp)), k136 x3 h = some q → J κ 136 [(0, .inr (.inr 155)), (1, .inl x1), (2, .inl x2), (3, .inr (.inl x3)), (5, .inl x5)] [] h (some (.inr (.inl q.1)), q.2)) (hself : ∀ (x3 : Int64) (x6 : Int32) (h : Hp) (q : (Int64 × Hp)), self x3 x6 h = some q → J κ 32 [(0, .inr (.inr 155)), (1, .inl x1), (2, .inl x2), (3, .inr (.inl x3)), (5, .inl x5), (6, .inl x6)] [] h (some (.inr (.inl q.1)), q.2)) (hq : F_X13_bestFrom_32 x1 x2 x5 k136 self x3 x6 h = some q) : J κ 32 [(0, .inr (.inr 155)), (1, .inl x1), (2, .inl x2), (3, .inr (.inl x3)), (5, .inl x5), (6, .inl x6)] [] h (some (.inr (.inl q.1)), q.2) := by
  delta F_X13_bestFrom_32 at hq
  refine J_iload (pc := 32) X (j := 5) rfl dX13_bestFrom_32 ?_
  refine J_iconst (pc := 34) X (v := 5) (by decide) dX13_bestFrom_34 ?_
  refine J_icmp_ge (pc := 35) (tgt := 136) X dX13_bestFrom_35 rfl (fun c5 => ?_) (fun c5 => ?_)
  · have hq := ite_t hq c5
    refine J_sub [0, 1, 2, 3, 4] rfl ?_
    exact hk136 _ _ _ hq
  · have hq := ite_f hq c5
    refine J_aload_n (pc := 38) X (j := 0) (i := 0) rfl rfl dX13_bestFrom_38 ?_
    refine J_getF (pc := 39) X (b := 157) ly155 fl_13_33 rfl dX13_bestFrom_39 ?_
    refine J_bipush (pc := 42) X (v := 72) (by decide) dX13_bestFrom_42 ?_
    refine J_iconst (pc := 44) X (v := 5) (by decide) dX13_bestFrom_44 ?_
    refine J_iload (pc := 45) X (j := 4) rfl dX13_bestFrom_45 ?_
    refine J_imul (pc := 47) X dX13_bestFrom_47 ?_
    refine J_iadd (pc := 48) X dX13_bestFrom_48 ?_
    refine J_iload (pc := 49) X (j := 5) rfl dX13_bestFrom_49 ?_
    refine J_iadd (pc := 51) X dX13_bestFrom_51 ?_
    obtain ⟨g6, hq⟩ := gd hq
    refine J_iaload (pc := 52) X ly157 g6 dX13_bestFrom_52 ?_
    refine J_if_eq (pc := 53) (tgt := 130) X dX13_bestFrom_53 rfl (fun c7 => ?_) (fun c7 => ?_)
    · have hq := ite_t hq c7
      refine J_iinc (pc := 130) X (j := 5) (v := 1) (L' := [(6, .inl (x6 + 1)), (0, .inr (.inr 155)), (1, .inl x1), (2, .inl x2), (3, .inr (.inl x3)), (5, .inl x5)]) rfl (by decide) (by decide) rfl dX13_bestFrom_130 ?_
      refine J_goto (pc := 133) X (tgt := 32) dX13_bestFrom_133 rfl ?_
      refine J_sub [1, 2, 3, 4, 5, 0] rfl ?_
      exact hself _ _ _ _ hq
    · have hq := ite_f hq c7
      refine J_aload_n (pc := 56) X (j := 0) (i := 0) rfl rfl dX13_bestFrom_56 ?_
      refine J_getF (pc := 57) X (b := 157) ly155 fl_13_33 rfl dX13_bestFrom_57 ?_
      refine J_bipush (pc := 60) X (v := 15) (by decide) dX13_bestFrom_60 ?_
      refine J_iconst (pc := 62) X (v := 5) (by decide) dX13_bestFrom_62 ?_
      refine J_iload_n (pc := 63) X (j := 2) (i := 2) rfl rfl dX13_bestFrom_63 ?_
      refine J_imul (pc := 64) X dX13_bestFrom_64 ?_
      refine J_iadd (pc := 65) X dX13_bestFrom_65 ?_
      refine J_iload (pc := 66) X (j := 5) rfl dX13_bestFrom_66 ?_
      refine J_iadd (pc := 68) X dX13_bestFrom_68 ?_
      obtain ⟨g8, hq⟩ := gd hq
      refine J_iaload (pc := 69) X ly157 g8 dX13_bestFrom_69 ?_
      refine J_if_ne (pc := 70) (tgt := 76) X dX13_bestFrom_70 rfl (fun c9 => ?_) (fun c9 => ?_)
      · have hq := ite_f hq c9
        refine J_aload_n (pc := 76) X (j := 0) (i := 0) rfl rfl dX13_bestFrom_76 ?_
        refine J_getF (pc := 77) X (b := 182) ly155 fl_13_114 rfl dX13_bestFrom_77 ?_
        refine J_iconst (pc := 80) X (v := 5) (by decide) dX13_bestFrom_80 ?_
        refine J_iload_n (pc := 81) X (j := 1) (i := 1) rfl rfl dX13_bestFrom_81 ?_
        refine J_iconst (pc := 82) X (v := 1) (by decide) dX13_bestFrom_82 ?_
        refine J_iadd (pc := 83) X dX13_bestFrom_83 ?_
        refine J_imul (pc := 84) X dX13_bestFrom_84 ?_
        refine J_iload (pc := 85) X (j := 5) rfl dX13_bestFrom_85 ?_
        refine J_iadd (pc := 87) X dX13_bestFrom_87 ?_
        obtain ⟨g10, hq⟩ := gd hq
        refine J_laload (pc := 88) X ly182 g10 dX13_bestFrom_88 ?_
        refine J_aload_n (pc := 89) X (j := 0) (i := 0) rfl rfl dX13_bestFrom_89 ?_
        refine J_getF (pc := 90) X (b := 178) ly155 fl_13_102 rfl dX13_bestFrom_90 ?_
        refine J_iload_n (pc := 93) X (j := 1) (i := 1) rfl rfl dX13_bestFrom_93 ?_
        obtain ⟨g11, hq⟩ := gd hq
        refine J_iaload (pc := 94) X ly178 g11 dX13_bestFrom_94 ?_
        refine J_if_ge (pc := 95) (tgt := 111) X dX13_bestFrom_95 rfl (fun c12 => ?_) (fun c12 => ?_)
        · have hq := ite_t hq c12
          refine J_iconst (pc := 111) X (v := 1) (by decide) dX13_bestFrom_111 ?_
          exact tB_X13_bestFrom_112 X _ _ _ _ _ _ _ _ _ _ _ hk136 hself hq
        · have hq := ite_f hq c12
          refine J_aload_n (pc := 98) X (j := 0) (i := 0) rfl rfl dX13_bestFrom_98 ?_
          refine J_getF (pc := 99) X (b := 157) ly155 fl_13_33 rfl dX13_bestFrom_99 ?_
          refine J_bipush (pc := 102) X (v := 48) (by decide) dX13_bestFrom_102 ?_
          refine J_iload (pc := 104) X (j := 4) rfl dX13_bestFrom_104 ?_
          refine J_iadd (pc := 106) X dX13_bestFrom_106 ?_
          obtain ⟨g15, hq⟩ := gd hq
          refine J_iaload (pc := 107) X ly157 g15 dX13_bestFrom_107 ?_
          refine J_goto (pc := 108) X (tgt := 112) dX13_bestFrom_108 rfl ?_
          exact tB_X13_bestFrom_112 X _ _ _ _ _ _ _ _ _ _ _ hk136 hself hq
      · have hq := ite_t hq c9
        refine J_goto (pc := 73) X (tgt := 130) dX13_bestFrom_73 rfl ?_
        refine J_iinc (pc := 130) X (j := 5) (v := 1) (L' := [(6, .inl (x6 + 1)), (0, .inr (.inr 155)), (1, .inl x1), (2, .inl x2), (3, .inr (.inl x3)), (5, .inl x5)]) rfl (by decide) (by decide) rfl dX13_bestFrom_130 ?_
        refine J_goto (pc := 133) X (tgt := 32) dX13_bestFrom_133 rfl ?_
        refine J_sub [1, 2, 3, 4, 5, 0] rfl ?_
        exact hself _ _ _ _ hq
theorem tL_X13_bestFrom_32 {κ : Kx} (X : OK κ cX13_bestFrom 9 (some .long) "StruckWordsModel" 2) (x1 : Int32) (x2 : Int32) (x5 : Int32) (k136 : Int64 → Hp → Option (Int64 × Hp)) (N : Nat) (x3 : Int64) (x6 : Int32) (h : Hp) (q : (Int64 × Hp)) (hk136 : ∀ (x3 : Int64) (h : Hp) (q : (Int64 × Hp)), k136 x3 h = some q → J κ 136 [(0, .inr (.inr 155)), (1, .inl x1), (2, .inl x2), (3, .inr (.inl x3)), (5, .inl x5)] [] h (some (.inr (.inl q.1)), q.2)) (hq : itr3 (F_X13_bestFrom_32 x1 x2 x5 k136) N x3 x6 h = some q) : J κ 32 [(0, .inr (.inr 155)), (1, .inl x1), (2, .inl x2), (3, .inr (.inl x3)), (5, .inl x5), (6, .inl x6)] [] h (some (.inr (.inl q.1)), q.2) :=
  itr3_ind (fun self hs x3 x6 h q hq => tF_X13_bestFrom_32 X x1 x2 x5 k136 self x3 x6 h q hk136 hs hq) N x3 x6 h q hq
theorem tF_X13_bestFrom_5 {κ : Kx} (X : OK κ cX13_bestFrom 9 (some .long) "StruckWordsModel" 2) (x1 : Int32) (x2 : Int32) (k142 : Int64 → Hp → Option (Int64 × Hp)) (self : Int64 → Int32 → Hp → Option (Int64 × Hp)) (x3 : Int64) (x5 : Int32) (h : Hp) (q : (Int64 × Hp)) (hk142 : ∀ (x3 : Int64) (h : Hp) (q : (Int64 × Hp)), k142 x3 h = some q → J κ 142 [(3, .inr (.inl x3))] [] h (some (.inr (.inl q.1)), q.2)) (hself : ∀ (x3 : Int64) (x5 : Int32) (h : Hp) (q : (Int64 × Hp)), self x3 x5 h = some q → J κ 5 [(0, .inr (.inr 155)), (1, .inl x1), (2, .inl x2), (3, .inr (.inl x3)), (5, .inl x5)] [] h (some (.inr (.inl q.1)), q.2)) (hq : F_X13_bestFrom_5 x1 x2 k142 self x3 x5 h = some q) : J κ 5 [(0, .inr (.inr 155)), (1, .inl x1), (2, .inl x2), (3, .inr (.inl x3)), (5, .inl x5)] [] h (some (.inr (.inl q.1)), q.2) := by
  delta F_X13_bestFrom_5 at hq
  refine J_iload (pc := 5) X (j := 4) rfl dX13_bestFrom_5 ?_
  refine J_aload_n (pc := 7) X (j := 0) (i := 0) rfl rfl dX13_bestFrom_7 ?_
  refine J_getF (pc := 8) X (b := 157) ly155 fl_13_33 rfl dX13_bestFrom_8 ?_
  refine J_iconst (pc := 11) X (v := 2) (by decide) dX13_bestFrom_11 ?_
  refine J_iaload (pc := 12) X ly157 (by decide) dX13_bestFrom_12 ?_
  refine J_icmp_ge (pc := 13) (tgt := 142) X dX13_bestFrom_13 rfl (fun c1 => ?_) (fun c1 => ?_)
  · have hq := ite_t hq c1
    refine J_sub [3] rfl ?_
    exact hk142 _ _ _ hq
  · have hq := ite_f hq c1
    refine J_aload_n (pc := 16) X (j := 0) (i := 0) rfl rfl dX13_bestFrom_16 ?_
    refine J_iload_n (pc := 17) X (j := 1) (i := 1) rfl rfl dX13_bestFrom_17 ?_
    refine J_iload (pc := 18) X (j := 4) rfl dX13_bestFrom_18 ?_
    obtain ⟨v3, h2, hc, hq⟩ := bnd_e hq
    refine J_callV (pc := 20) (as := [.inl x1, .inl x5]) (st := []) (st2 := [.inl v3]) (r1 := (some (.inl v3), h2)) (h2 := h2) (ky := 1) X dX13_bestFrom_20 ca_X13_mayBe ci_X13_mayBe cs_X13_mayBe ml_13_402 (by decide) ly155 rfl rfl (m_X13_mayBe _ _ _ _ hc) rfl rfl (Nat.le_of_ble_eq_true rfl) rfl rfl ?_
    refine J_if_ne (pc := 23) (tgt := 29) X dX13_bestFrom_23 rfl (fun c4 => ?_) (fun c4 => ?_)
    · have hq := ite_f hq c4
      refine J_iconst (pc := 29) X (v := 0) (by decide) dX13_bestFrom_29 ?_
      refine J_istore (pc := 30) X (L' := [(6, .inl 0), (0, .inr (.inr 155)), (1, .inl x1), (2, .inl x2), (3, .inr (.inl x3)), (5, .inl x5)]) (by decide) rfl dX13_bestFrom_30 ?_
      refine J_sub [1, 2, 3, 4, 5, 0] rfl ?_
      refine tL_X13_bestFrom_32 X _ _ _ _ N0 _ _ _ _ ?_ hq
      · intro v17 h16 q hq
        refine J_iinc (pc := 136) X (j := 4) (v := 1) (L' := [(5, .inl (x5 + 1)), (0, .inr (.inr 155)), (1, .inl x1), (2, .inl x2), (3, .inr (.inl v17))]) rfl (by decide) (by decide) rfl dX13_bestFrom_136 ?_
        refine J_goto (pc := 139) X (tgt := 5) dX13_bestFrom_139 rfl ?_
        refine J_sub [1, 2, 3, 4, 0] rfl ?_
        exact hself _ _ _ _ hq
    · have hq := ite_t hq c4
      refine J_goto (pc := 26) X (tgt := 136) dX13_bestFrom_26 rfl ?_
      refine J_iinc (pc := 136) X (j := 4) (v := 1) (L' := [(5, .inl (x5 + 1)), (0, .inr (.inr 155)), (1, .inl x1), (2, .inl x2), (3, .inr (.inl x3))]) rfl (by decide) (by decide) rfl dX13_bestFrom_136 ?_
      refine J_goto (pc := 139) X (tgt := 5) dX13_bestFrom_139 rfl ?_
      refine J_sub [1, 2, 3, 4, 0] rfl ?_
      exact hself _ _ _ _ hq
theorem tL_X13_bestFrom_5 {κ : Kx} (X : OK κ cX13_bestFrom 9 (some .long) "StruckWordsModel" 2) (x1 : Int32) (x2 : Int32) (k142 : Int64 → Hp → Option (Int64 × Hp)) (N : Nat) (x3 : Int64) (x5 : Int32) (h : Hp) (q : (Int64 × Hp)) (hk142 : ∀ (x3 : Int64) (h : Hp) (q : (Int64 × Hp)), k142 x3 h = some q → J κ 142 [(3, .inr (.inl x3))] [] h (some (.inr (.inl q.1)), q.2)) (hq : itr3 (F_X13_bestFrom_5 x1 x2 k142) N x3 x5 h = some q) : J κ 5 [(0, .inr (.inr 155)), (1, .inl x1), (2, .inl x2), (3, .inr (.inl x3)), (5, .inl x5)] [] h (some (.inr (.inl q.1)), q.2) :=
  itr3_ind (fun self hs x3 x5 h q hq => tF_X13_bestFrom_5 X x1 x2 k142 self x3 x5 h q hk142 hs hq) N x3 x5 h q hq
theorem tf_X13_bestFrom {κ : Kx} (X : OK κ cX13_bestFrom 9 (some .long) "StruckWordsModel" 2) (x1 : Int32) (x2 : Int32) (h : Hp) (q : (Int64 × Hp)) (hq : f_X13_bestFrom x1 x2 h = some q) : J κ 0 [(0, .inr (.inr 155)), (1, .inl x1), (2, .inl x2)] [] h (some (.inr (.inl q.1)), q.2) := by
  delta f_X13_bestFrom at hq
  refine J_lconst (pc := 0) X (v := 0) (by decide) dX13_bestFrom_0 ?_
  refine J_lstore_n (pc := 1) X (L' := [(3, .inr (.inl 0)), (0, .inr (.inr 155)), (1, .inl x1), (2, .inl x2)]) (i := 3) rfl (by decide) rfl dX13_bestFrom_1 ?_
  refine J_iconst (pc := 2) X (v := 0) (by decide) dX13_bestFrom_2 ?_
  refine J_istore (pc := 3) X (L' := [(5, .inl 0), (3, .inr (.inl 0)), (0, .inr (.inr 155)), (1, .inl x1), (2, .inl x2)]) (by decide) rfl dX13_bestFrom_3 ?_
  refine J_sub [2, 3, 4, 1, 0] rfl ?_
  refine tL_X13_bestFrom_5 X _ _ _ N0 _ _ _ _ ?_ hq
  · intro v19 h18 q hq
    refine J_lload_n (pc := 142) X (j := 0) (i := 3) rfl rfl dX13_bestFrom_142 ?_
    obtain rfl := Option.some.inj hq
    exact J_lret (pc := 143) X dX13_bestFrom_143
theorem m_X13_bestFrom (x1 : Int32) (x2 : Int32) (h : Hp) (q : (Int64 × Hp)) (hq : f_X13_bestFrom x1 x2 h = some q) : ∀ l w, CT l w yX13_bestFrom cX13_bestFrom 9 (some .long) 2 [.inr (.inr 155), .inl x1, .inl x2] h (some (.inr (.inl q.1)), q.2) :=
  CT_of (L0 := [(0, .inr (.inr 155)), (1, .inl x1), (2, .inl x2)]) (by decide) rfl (Nat.le_of_ble_eq_true rfl) (fun κ X => tf_X13_bestFrom X x1 x2 h q  hq)
theorem tF_X13_comesFrom_25 {κ : Kx} (X : OK κ cX13_comesFrom 5 (some .boolean) "StruckWordsModel" 2) (x1 : Int32) (x3 : Int32) (k58 : Hp → Option (Int32 × Hp)) (k66 : Hp → Option (Int32 × Hp)) (self : Int32 → Hp → Option (Int32 × Hp)) (x4 : Int32) (h : Hp) (q : (Int32 × Hp)) (hk58 : ∀ (h : Hp) (q : (Int32 × Hp)), k58 h = some q → J κ 58 [] [] h (some (.inl q.1), q.2)) (hk66 : ∀ (h : Hp) (q : (Int32 × Hp)), k66 h = some q → J κ 66 [] [] h (some (.inl q.1), q.2)) (hself : ∀ (x4 : Int32) (h : Hp) (q : (Int32 × Hp)), self x4 h = some q → J κ 25 [(0, .inr (.inr 155)), (1, .inl x1), (3, .inl x3), (4, .inl x4)] [] h (some (.inl q.1), q.2)) (hq : F_X13_comesFrom_25 x1 x3 k58 k66 self x4 h = some q) : J κ 25 [(0, .inr (.inr 155)), (1, .inl x1), (3, .inl x3), (4, .inl x4)] [] h (some (.inl q.1), q.2) := by
  delta F_X13_comesFrom_25 at hq
  refine J_iload (pc := 25) X (j := 3) rfl dX13_comesFrom_25 ?_
  refine J_iconst (pc := 27) X (v := 5) (by decide) dX13_comesFrom_27 ?_
  refine J_icmp_ge (pc := 28) (tgt := 66) X dX13_comesFrom_28 rfl (fun c2 => ?_) (fun c2 => ?_)
  · have hq := ite_t hq c2
    refine J_sub [] rfl ?_
    exact hk66 _ _ hq
  · have hq := ite_f hq c2
    refine J_iload_n (pc := 31) X (j := 1) (i := 1) rfl rfl dX13_comesFrom_31 ?_
    refine J_iload (pc := 32) X (j := 3) rfl dX13_comesFrom_32 ?_
    obtain ⟨v4, h3, hc, hq⟩ := bnd_e hq
    refine J_callS (pc := 34) (as := [.inl x1, .inl x4]) (st := []) (st2 := [.inl v4]) (r1 := (some (.inl v4), h3)) (h2 := h3) (ky := 1) X dX13_comesFrom_34 ca_X13_has cz_X13_has ml_13_257 (by decide) (m_X13_has _ _ _ _ hc) rfl rfl (Nat.le_of_ble_eq_true rfl) rfl rfl ?_
    refine J_if_eq (pc := 37) (tgt := 60) X dX13_comesFrom_37 rfl (fun c5 => ?_) (fun c5 => ?_)
    · have hq := ite_t hq c5
      refine J_iinc (pc := 60) X (j := 3) (v := 1) (L' := [(4, .inl (x4 + 1)), (0, .inr (.inr 155)), (1, .inl x1), (3, .inl x3)]) rfl (by decide) (by decide) rfl dX13_comesFrom_60 ?_
      refine J_goto (pc := 63) X (tgt := 25) dX13_comesFrom_63 rfl ?_
      refine J_sub [1, 2, 3, 0] rfl ?_
      exact hself _ _ _ hq
    · have hq := ite_f hq c5
      refine J_aload_n (pc := 40) X (j := 0) (i := 0) rfl rfl dX13_comesFrom_40 ?_
      refine J_getF (pc := 41) X (b := 157) ly155 fl_13_33 rfl dX13_comesFrom_41 ?_
      refine J_bipush (pc := 44) X (v := 15) (by decide) dX13_comesFrom_44 ?_
      refine J_iconst (pc := 46) X (v := 5) (by decide) dX13_comesFrom_46 ?_
      refine J_iload (pc := 47) X (j := 3) rfl dX13_comesFrom_47 ?_
      refine J_imul (pc := 49) X dX13_comesFrom_49 ?_
      refine J_iadd (pc := 50) X dX13_comesFrom_50 ?_
      refine J_iload_n (pc := 51) X (j := 2) (i := 3) rfl rfl dX13_comesFrom_51 ?_
      refine J_iadd (pc := 52) X dX13_comesFrom_52 ?_
      obtain ⟨g6, hq⟩ := gd hq
      refine J_iaload (pc := 53) X ly157 g6 dX13_comesFrom_53 ?_
      refine J_iconst (pc := 54) X (v := 1) (by decide) dX13_comesFrom_54 ?_
      refine J_icmp_ne (pc := 55) (tgt := 60) X dX13_comesFrom_55 rfl (fun c7 => ?_) (fun c7 => ?_)
      · have hq := ite_f hq c7
        refine J_iinc (pc := 60) X (j := 3) (v := 1) (L' := [(4, .inl (x4 + 1)), (0, .inr (.inr 155)), (1, .inl x1), (3, .inl x3)]) rfl (by decide) (by decide) rfl dX13_comesFrom_60 ?_
        refine J_goto (pc := 63) X (tgt := 25) dX13_comesFrom_63 rfl ?_
        refine J_sub [1, 2, 3, 0] rfl ?_
        exact hself _ _ _ hq
      · have hq := ite_t hq c7
        refine J_sub [] rfl ?_
        exact hk58 _ _ hq
theorem tL_X13_comesFrom_25 {κ : Kx} (X : OK κ cX13_comesFrom 5 (some .boolean) "StruckWordsModel" 2) (x1 : Int32) (x3 : Int32) (k58 : Hp → Option (Int32 × Hp)) (k66 : Hp → Option (Int32 × Hp)) (N : Nat) (x4 : Int32) (h : Hp) (q : (Int32 × Hp)) (hk58 : ∀ (h : Hp) (q : (Int32 × Hp)), k58 h = some q → J κ 58 [] [] h (some (.inl q.1), q.2)) (hk66 : ∀ (h : Hp) (q : (Int32 × Hp)), k66 h = some q → J κ 66 [] [] h (some (.inl q.1), q.2)) (hq : itr2 (F_X13_comesFrom_25 x1 x3 k58 k66) N x4 h = some q) : J κ 25 [(0, .inr (.inr 155)), (1, .inl x1), (3, .inl x3), (4, .inl x4)] [] h (some (.inl q.1), q.2) :=
  itr2_ind (fun self hs x4 h q hq => tF_X13_comesFrom_25 X x1 x3 k58 k66 self x4 h q hk58 hk66 hs hq) N x4 h q hq
theorem tf_X13_comesFrom {κ : Kx} (X : OK κ cX13_comesFrom 5 (some .boolean) "StruckWordsModel" 2) (x1 : Int32) (x2 : Int32) (x3 : Int32) (h : Hp) (q : (Int32 × Hp)) (hq : f_X13_comesFrom x1 x2 x3 h = some q) : J κ 0 [(0, .inr (.inr 155)), (1, .inl x1), (2, .inl x2), (3, .inl x3)] [] h (some (.inl q.1), q.2) := by
  delta f_X13_comesFrom at hq
  refine J_iload_n (pc := 0) X (j := 2) (i := 2) rfl rfl dX13_comesFrom_0 ?_
  refine J_if_ne (pc := 1) (tgt := 22) X dX13_comesFrom_1 rfl (fun c1 => ?_) (fun c1 => ?_)
  · have hq := ite_f hq c1
    refine J_iconst (pc := 22) X (v := 0) (by decide) dX13_comesFrom_22 ?_
    refine J_istore (pc := 23) X (L' := [(4, .inl 0), (0, .inr (.inr 155)), (1, .inl x1), (2, .inl x2), (3, .inl x3)]) (by decide) rfl dX13_comesFrom_23 ?_
    refine J_sub [1, 2, 4, 0] rfl ?_
    refine tL_X13_comesFrom_25 X _ _ _ _ N0 _ _ _ ?_ ?_ hq
    · intro h8 q hq
      refine J_iconst (pc := 58) X (v := 1) (by decide) dX13_comesFrom_58 ?_
      obtain rfl := Option.some.inj hq
      exact J_zret (pc := 59) X (by decide) dX13_comesFrom_59
    · intro h9 q hq
      refine J_iconst (pc := 66) X (v := 0) (by decide) dX13_comesFrom_66 ?_
      obtain rfl := Option.some.inj hq
      exact J_zret (pc := 67) X (by decide) dX13_comesFrom_67
  · have hq := ite_t hq c1
    refine J_aload_n (pc := 4) X (j := 0) (i := 0) rfl rfl dX13_comesFrom_4 ?_
    refine J_getF (pc := 5) X (b := 157) ly155 fl_13_33 rfl dX13_comesFrom_5 ?_
    refine J_iconst (pc := 8) X (v := 5) (by decide) dX13_comesFrom_8 ?_
    refine J_iload_n (pc := 9) X (j := 3) (i := 3) rfl rfl dX13_comesFrom_9 ?_
    refine J_iadd (pc := 10) X dX13_comesFrom_10 ?_
    obtain ⟨g10, hq⟩ := gd hq
    refine J_iaload (pc := 11) X ly157 g10 dX13_comesFrom_11 ?_
    refine J_iconst (pc := 12) X (v := 1) (by decide) dX13_comesFrom_12 ?_
    refine J_icmp_ne (pc := 13) (tgt := 20) X dX13_comesFrom_13 rfl (fun c11 => ?_) (fun c11 => ?_)
    · have hq := ite_f hq c11
      refine J_iconst (pc := 20) X (v := 0) (by decide) dX13_comesFrom_20 ?_
      obtain rfl := Option.some.inj hq
      exact J_zret (pc := 21) X (by decide) dX13_comesFrom_21
    · have hq := ite_t hq c11
      refine J_iconst (pc := 16) X (v := 1) (by decide) dX13_comesFrom_16 ?_
      refine J_goto (pc := 17) X (tgt := 21) dX13_comesFrom_17 rfl ?_
      obtain rfl := Option.some.inj hq
      exact J_zret (pc := 21) X (by decide) dX13_comesFrom_21
theorem m_X13_comesFrom (x1 : Int32) (x2 : Int32) (x3 : Int32) (h : Hp) (q : (Int32 × Hp)) (hq : f_X13_comesFrom x1 x2 x3 h = some q) : ∀ l w, CT l w yX13_comesFrom cX13_comesFrom 5 (some .boolean) 2 [.inr (.inr 155), .inl x1, .inl x2, .inl x3] h (some (.inl q.1), q.2) :=
  CT_of (L0 := [(0, .inr (.inr 155)), (1, .inl x1), (2, .inl x2), (3, .inl x3)]) (by decide) rfl (Nat.le_of_ble_eq_true rfl) (fun κ X => tf_X13_comesFrom X x1 x2 x3 h q  hq)
theorem tF_X13_likely_2 {κ : Kx} (X : OK κ cX13_likely 15 (none) "StruckWordsModel" 3) (x1 : Int32) (k33 : Hp → Option Hp) (self : Int32 → Hp → Option Hp) (x2 : Int32) (h : Hp) (q : Hp) (hk33 : ∀ (h : Hp) (q : Hp), k33 h = some q → J κ 33 [(0, .inr (.inr 155)), (1, .inl x1)] [] h (none, q)) (hself : ∀ (x2 : Int32) (h : Hp) (q : Hp), self x2 h = some q → J κ 2 [(0, .inr (.inr 155)), (1, .inl x1), (2, .inl x2)] [] h (none, q)) (hq : F_X13_likely_2 x1 k33 self x2 h = some q) : J κ 2 [(0, .inr (.inr 155)), (1, .inl x1), (2, .inl x2)] [] h (none, q) := by
  delta F_X13_likely_2 at hq
  refine J_iload_n (pc := 2) X (j := 2) (i := 2) rfl rfl dX13_likely_2 ?_
  refine J_iconst (pc := 3) X (v := 5) (by decide) dX13_likely_3 ?_
  refine J_icmp_ge (pc := 4) (tgt := 33) X dX13_likely_4 rfl (fun c1 => ?_) (fun c1 => ?_)
  · have hq := ite_t hq c1
    refine J_sub [0, 1] rfl ?_
    exact hk33 _ _ hq
  · have hq := ite_f hq c1
    refine J_aload_n (pc := 7) X (j := 0) (i := 0) rfl rfl dX13_likely_7 ?_
    refine J_getF (pc := 8) X (b := 182) ly155 fl_13_114 rfl dX13_likely_8 ?_
    refine J_iconst (pc := 11) X (v := 5) (by decide) dX13_likely_11 ?_
    refine J_iload_n (pc := 12) X (j := 1) (i := 1) rfl rfl dX13_likely_12 ?_
    refine J_imul (pc := 13) X dX13_likely_13 ?_
    refine J_iload_n (pc := 14) X (j := 2) (i := 2) rfl rfl dX13_likely_14 ?_
    refine J_iadd (pc := 15) X dX13_likely_15 ?_
    refine J_aload_n (pc := 16) X (j := 0) (i := 0) rfl rfl dX13_likely_16 ?_
    refine J_getF (pc := 17) X (b := 157) ly155 fl_13_33 rfl dX13_likely_17 ?_
    refine J_bipush (pc := 20) X (v := 10) (by decide) dX13_likely_20 ?_
    refine J_iload_n (pc := 22) X (j := 2) (i := 2) rfl rfl dX13_likely_22 ?_
    refine J_iadd (pc := 23) X dX13_likely_23 ?_
    obtain ⟨g2, hq⟩ := gd hq
    refine J_iaload (pc := 24) X ly157 g2 dX13_likely_24 ?_
    refine J_i2l (pc := 25) X dX13_likely_25 ?_
    obtain ⟨g3, hq⟩ := gd hq
    refine J_lastore (pc := 26) X ly182 g3 dX13_likely_26 ?_
    refine J_ltH hq (fun h4 hq => ?_)
    refine J_iinc (pc := 27) X (j := 2) (v := 1) (L' := [(2, .inl (x2 + 1)), (0, .inr (.inr 155)), (1, .inl x1)]) rfl (by decide) (by decide) rfl dX13_likely_27 ?_
    refine J_goto (pc := 30) X (tgt := 2) dX13_likely_30 rfl ?_
    refine J_sub [1, 2, 0] rfl ?_
    exact hself _ _ _ hq
theorem tL_X13_likely_2 {κ : Kx} (X : OK κ cX13_likely 15 (none) "StruckWordsModel" 3) (x1 : Int32) (k33 : Hp → Option Hp) (N : Nat) (x2 : Int32) (h : Hp) (q : Hp) (hk33 : ∀ (h : Hp) (q : Hp), k33 h = some q → J κ 33 [(0, .inr (.inr 155)), (1, .inl x1)] [] h (none, q)) (hq : itr2 (F_X13_likely_2 x1 k33) N x2 h = some q) : J κ 2 [(0, .inr (.inr 155)), (1, .inl x1), (2, .inl x2)] [] h (none, q) :=
  itr2_ind (fun self hs x2 h q hq => tF_X13_likely_2 X x1 k33 self x2 h q hk33 hs hq) N x2 h q hq
theorem tF_X13_likely_43 {κ : Kx} (X : OK κ cX13_likely 15 (none) "StruckWordsModel" 3) (x1 : Int32) (x2 : Int32) (k70 : Hp → Option Hp) (self : Int32 → Hp → Option Hp) (x3 : Int32) (h : Hp) (q : Hp) (hk70 : ∀ (h : Hp) (q : Hp), k70 h = some q → J κ 70 [(0, .inr (.inr 155)), (1, .inl x1), (2, .inl x2)] [] h (none, q)) (hself : ∀ (x3 : Int32) (h : Hp) (q : Hp), self x3 h = some q → J κ 43 [(0, .inr (.inr 155)), (1, .inl x1), (2, .inl x2), (3, .inl x3)] [] h (none, q)) (hq : F_X13_likely_43 x1 x2 k70 self x3 h = some q) : J κ 43 [(0, .inr (.inr 155)), (1, .inl x1), (2, .inl x2), (3, .inl x3)] [] h (none, q) := by
  delta F_X13_likely_43 at hq
  refine J_iload_n (pc := 43) X (j := 3) (i := 3) rfl rfl dX13_likely_43 ?_
  refine J_iconst (pc := 44) X (v := 5) (by decide) dX13_likely_44 ?_
  refine J_icmp_ge (pc := 45) (tgt := 70) X dX13_likely_45 rfl (fun c7 => ?_) (fun c7 => ?_)
  · have hq := ite_t hq c7
    refine J_sub [0, 1, 2] rfl ?_
    exact hk70 _ _ hq
  · have hq := ite_f hq c7
    refine J_aload_n (pc := 48) X (j := 0) (i := 0) rfl rfl dX13_likely_48 ?_
    refine J_getF (pc := 49) X (b := 182) ly155 fl_13_114 rfl dX13_likely_49 ?_
    refine J_iconst (pc := 52) X (v := 5) (by decide) dX13_likely_52 ?_
    refine J_iload_n (pc := 53) X (j := 2) (i := 2) rfl rfl dX13_likely_53 ?_
    refine J_imul (pc := 54) X dX13_likely_54 ?_
    refine J_iload_n (pc := 55) X (j := 3) (i := 3) rfl rfl dX13_likely_55 ?_
    refine J_iadd (pc := 56) X dX13_likely_56 ?_
    refine J_aload_n (pc := 57) X (j := 0) (i := 0) rfl rfl dX13_likely_57 ?_
    refine J_iload_n (pc := 58) X (j := 2) (i := 2) rfl rfl dX13_likely_58 ?_
    refine J_iload_n (pc := 59) X (j := 3) (i := 3) rfl rfl dX13_likely_59 ?_
    obtain ⟨v9, h8, hc, hq⟩ := bnd_e hq
    refine J_callV (pc := 60) (as := [.inl x2, .inl x3]) (st := [.inl ((5 * x2) + x3), .inr (.inr 182)]) (st2 := [.inr (.inl v9), .inl ((5 * x2) + x3), .inr (.inr 182)]) (r1 := (some (.inr (.inl v9)), h8)) (h2 := h8) (ky := 2) X dX13_likely_60 ca_X13_bestFrom ci_X13_bestFrom cs_X13_bestFrom ml_13_405 (by decide) ly155 rfl rfl (m_X13_bestFrom _ _ _ _ hc) rfl rfl (Nat.le_of_ble_eq_true rfl) rfl rfl ?_
    obtain ⟨g10, hq⟩ := gd hq
    refine J_lastore (pc := 63) X ly182 g10 dX13_likely_63 ?_
    refine J_ltH hq (fun h11 hq => ?_)
    refine J_iinc (pc := 64) X (j := 3) (v := 1) (L' := [(3, .inl (x3 + 1)), (0, .inr (.inr 155)), (1, .inl x1), (2, .inl x2)]) rfl (by decide) (by decide) rfl dX13_likely_64 ?_
    refine J_goto (pc := 67) X (tgt := 43) dX13_likely_67 rfl ?_
    refine J_sub [1, 2, 3, 0] rfl ?_
    exact hself _ _ _ hq
theorem tL_X13_likely_43 {κ : Kx} (X : OK κ cX13_likely 15 (none) "StruckWordsModel" 3) (x1 : Int32) (x2 : Int32) (k70 : Hp → Option Hp) (N : Nat) (x3 : Int32) (h : Hp) (q : Hp) (hk70 : ∀ (h : Hp) (q : Hp), k70 h = some q → J κ 70 [(0, .inr (.inr 155)), (1, .inl x1), (2, .inl x2)] [] h (none, q)) (hq : itr2 (F_X13_likely_43 x1 x2 k70) N x3 h = some q) : J κ 43 [(0, .inr (.inr 155)), (1, .inl x1), (2, .inl x2), (3, .inl x3)] [] h (none, q) :=
  itr2_ind (fun self hs x3 h q hq => tF_X13_likely_43 X x1 x2 k70 self x3 h q hk70 hs hq) N x3 h q hq
theorem tF_X13_likely_37 {κ : Kx} (X : OK κ cX13_likely 15 (none) "StruckWordsModel" 3) (x1 : Int32) (k76 : Hp → Option Hp) (self : Int32 → Hp → Option Hp) (x2 : Int32) (h : Hp) (q : Hp) (hk76 : ∀ (h : Hp) (q : Hp), k76 h = some q → J κ 76 [(0, .inr (.inr 155)), (1, .inl x1)] [] h (none, q)) (hself : ∀ (x2 : Int32) (h : Hp) (q : Hp), self x2 h = some q → J κ 37 [(0, .inr (.inr 155)), (1, .inl x1), (2, .inl x2)] [] h (none, q)) (hq : F_X13_likely_37 x1 k76 self x2 h = some q) : J κ 37 [(0, .inr (.inr 155)), (1, .inl x1), (2, .inl x2)] [] h (none, q) := by
  delta F_X13_likely_37 at hq
  refine J_iload_n (pc := 37) X (j := 2) (i := 2) rfl rfl dX13_likely_37 ?_
  refine J_if_le (pc := 38) (tgt := 76) X dX13_likely_38 rfl (fun c6 => ?_) (fun c6 => ?_)
  · have hq := ite_t hq c6
    refine J_sub [0, 1] rfl ?_
    exact hk76 _ _ hq
  · have hq := ite_f hq c6
    refine J_iconst (pc := 41) X (v := 0) (by decide) dX13_likely_41 ?_
    refine J_istore_n (pc := 42) X (L' := [(3, .inl 0), (0, .inr (.inr 155)), (1, .inl x1), (2, .inl x2)]) (i := 3) rfl (by decide) rfl dX13_likely_42 ?_
    refine J_sub [1, 2, 3, 0] rfl ?_
    refine tL_X13_likely_43 X _ _ _ N0 _ _ _ ?_ hq
    · intro h12 q hq
      refine J_iinc (pc := 70) X (j := 2) (v := (-1)) (L' := [(2, .inl (x2 + (-1))), (0, .inr (.inr 155)), (1, .inl x1)]) rfl (by decide) (by decide) rfl dX13_likely_70 ?_
      refine J_goto (pc := 73) X (tgt := 37) dX13_likely_73 rfl ?_
      refine J_sub [1, 2, 0] rfl ?_
      exact hself _ _ _ hq
theorem tL_X13_likely_37 {κ : Kx} (X : OK κ cX13_likely 15 (none) "StruckWordsModel" 3) (x1 : Int32) (k76 : Hp → Option Hp) (N : Nat) (x2 : Int32) (h : Hp) (q : Hp) (hk76 : ∀ (h : Hp) (q : Hp), k76 h = some q → J κ 76 [(0, .inr (.inr 155)), (1, .inl x1)] [] h (none, q)) (hq : itr2 (F_X13_likely_37 x1 k76) N x2 h = some q) : J κ 37 [(0, .inr (.inr 155)), (1, .inl x1), (2, .inl x2)] [] h (none, q) :=
  itr2_ind (fun self hs x2 h q hq => tF_X13_likely_37 X x1 k76 self x2 h q hk76 hs hq) N x2 h q hq
theorem tF_X13_likely_140 {κ : Kx} (X : OK κ cX13_likely 15 (none) "StruckWordsModel" 3) (x1 : Int32) (x2 : Int32) (x3 : Int64) (x5 : Int32) (x6 : Int64) (x8 : Int32) (x9 : Int32) (x10 : Int32) (k235 : Int64 → Int32 → Hp → Option Hp) (self : Int64 → Int32 → Int32 → Hp → Option Hp) (x11 : Int64) (x13 : Int32) (x14 : Int32) (h : Hp) (q : Hp) (hk235 : ∀ (x11 : Int64) (x13 : Int32) (h : Hp) (q : Hp), k235 x11 x13 h = some q → J κ 235 [(0, .inr (.inr 155)), (1, .inl x1), (2, .inl x2), (3, .inr (.inl x3)), (5, .inl x5), (6, .inr (.inl x6)), (8, .inl x8), (9, .inl x9), (10, .inl x10), (11, .inr (.inl x11)), (13, .inl x13)] [] h (none, q)) (hself : ∀ (x11 : Int64) (x13 : Int32) (x14 : Int32) (h : Hp) (q : Hp), self x11 x13 x14 h = some q → J κ 140 [(0, .inr (.inr 155)), (1, .inl x1), (2, .inl x2), (3, .inr (.inl x3)), (5, .inl x5), (6, .inr (.inl x6)), (8, .inl x8), (9, .inl x9), (10, .inl x10), (11, .inr (.inl x11)), (13, .inl x13), (14, .inl x14)] [] h (none, q)) (hq : F_X13_likely_140 x1 x2 x3 x5 x6 x8 x9 x10 k235 self x11 x13 x14 h = some q) : J κ 140 [(0, .inr (.inr 155)), (1, .inl x1), (2, .inl x2), (3, .inr (.inl x3)), (5, .inl x5), (6, .inr (.inl x6)), (8, .inl x8), (9, .inl x9), (10, .inl x10), (11, .inr (.inl x11)), (13, .inl x13), (14, .inl x14)] [] h (none, q) := by
  delta F_X13_likely_140 at hq
  refine J_iload (pc := 140) X (j := 11) rfl dX13_likely_140 ?_
  refine J_iconst (pc := 142) X (v := 5) (by decide) dX13_likely_142 ?_
  refine J_icmp_ge (pc := 143) (tgt := 235) X dX13_likely_143 rfl (fun c20 => ?_) (fun c20 => ?_)
  · have hq := ite_t hq c20
    refine J_sub [0, 1, 2, 3, 4, 5, 6, 7, 8, 9, 10] rfl ?_
    exact hk235 _ _ _ _ hq
  · have hq := ite_f hq c20
    refine J_aload_n (pc := 146) X (j := 0) (i := 0) rfl rfl dX13_likely_146 ?_
    refine J_getF (pc := 147) X (b := 157) ly155 fl_13_33 rfl dX13_likely_147 ?_
    refine J_bipush (pc := 150) X (v := 72) (by decide) dX13_likely_150 ?_
    refine J_iconst (pc := 152) X (v := 5) (by decide) dX13_likely_152 ?_
    refine J_iload (pc := 153) X (j := 8) rfl dX13_likely_153 ?_
    refine J_imul (pc := 155) X dX13_likely_155 ?_
    refine J_iadd (pc := 156) X dX13_likely_156 ?_
    refine J_iload (pc := 157) X (j := 11) rfl dX13_likely_157 ?_
    refine J_iadd (pc := 159) X dX13_likely_159 ?_
    obtain ⟨g21, hq⟩ := gd hq
    refine J_iaload (pc := 160) X ly157 g21 dX13_likely_160 ?_
    refine J_if_eq (pc := 161) (tgt := 229) X dX13_likely_161 rfl (fun c22 => ?_) (fun c22 => ?_)
    · have hq := ite_t hq c22
      refine J_iinc (pc := 229) X (j := 11) (v := 1) (L' := [(14, .inl (x14 + 1)), (0, .inr (.inr 155)), (1, .inl x1), (2, .inl x2), (3, .inr (.inl x3)), (5, .inl x5), (6, .inr (.inl x6)), (8, .inl x8), (9, .inl x9), (10, .inl x10), (11, .inr (.inl x11)), (13, .inl x13)]) rfl (by decide) (by decide) rfl dX13_likely_229 ?_
      refine J_goto (pc := 232) X (tgt := 140) dX13_likely_232 rfl ?_
      refine J_sub [1, 2, 3, 4, 5, 6, 7, 8, 9, 10, 11, 0] rfl ?_
      exact hself _ _ _ _ _ hq
    · have hq := ite_f hq c22
      refine J_aload_n (pc := 164) X (j := 0) (i := 0) rfl rfl dX13_likely_164 ?_
      refine J_iload_n (pc := 165) X (j := 2) (i := 2) rfl rfl dX13_likely_165 ?_
      refine J_iload (pc := 166) X (j := 4) rfl dX13_likely_166 ?_
      refine J_iload (pc := 168) X (j := 11) rfl dX13_likely_168 ?_
      obtain ⟨v24, h23, hc, hq⟩ := bnd_e hq
      refine J_callV (pc := 170) (as := [.inl x2, .inl x5, .inl x14]) (st := []) (st2 := [.inl v24]) (r1 := (some (.inl v24), h23)) (h2 := h23) (ky := 2) X dX13_likely_170 ca_X13_comesFrom ci_X13_comesFrom cs_X13_comesFrom ml_13_412 (by decide) ly155 rfl rfl (m_X13_comesFrom _ _ _ _ _ hc) rfl rfl (Nat.le_of_ble_eq_true rfl) rfl rfl ?_
      refine J_if_ne (pc := 173) (tgt := 179) X dX13_likely_173 rfl (fun c25 => ?_) (fun c25 => ?_)
      · have hq := ite_f hq c25
        refine J_iload (pc := 179) X (j := 10) rfl dX13_likely_179 ?_
        refine J_iconst (pc := 181) X (v := 1) (by decide) dX13_likely_181 ?_
        refine J_iload (pc := 182) X (j := 11) rfl dX13_likely_182 ?_
        refine J_ishl (pc := 184) X dX13_likely_184 ?_
        refine J_ior (pc := 185) X dX13_likely_185 ?_
        refine J_ltI hq (fun v26 hq => ?_)
        refine J_istore (pc := 186) X (L' := [(13, .inl v26), (0, .inr (.inr 155)), (1, .inl x1), (2, .inl x2), (3, .inr (.inl x3)), (5, .inl x5), (6, .inr (.inl x6)), (8, .inl x8), (9, .inl x9), (10, .inl x10), (11, .inr (.inl x11)), (14, .inl x14)]) (by decide) rfl dX13_likely_186 ?_
        refine J_aload_n (pc := 188) X (j := 1) (i := 0) rfl rfl dX13_likely_188 ?_
        refine J_getF (pc := 189) X (b := 182) ly155 fl_13_114 rfl dX13_likely_189 ?_
        refine J_iconst (pc := 192) X (v := 5) (by decide) dX13_likely_192 ?_
        refine J_iload (pc := 193) X (j := 5) rfl dX13_likely_193 ?_
        refine J_iconst (pc := 195) X (v := 1) (by decide) dX13_likely_195 ?_
        refine J_iadd (pc := 196) X dX13_likely_196 ?_
        refine J_imul (pc := 197) X dX13_likely_197 ?_
        refine J_iload (pc := 198) X (j := 11) rfl dX13_likely_198 ?_
        refine J_iadd (pc := 200) X dX13_likely_200 ?_
        obtain ⟨g27, hq⟩ := gd hq
        refine J_laload (pc := 201) X ly182 g27 dX13_likely_201 ?_
        refine J_lload (pc := 202) X (j := 10) rfl dX13_likely_202 ?_
        refine J_lcmp (pc := 204) X dX13_likely_204 ?_
        refine J_if_le (pc := 205) (tgt := 225) X dX13_likely_205 rfl (fun c28 => ?_) (fun c28 => ?_)
        · have hq := ite_t hq c28
          refine J_lload (pc := 225) X (j := 10) rfl dX13_likely_225 ?_
          refine J_lstore (pc := 227) X (L' := [(11, .inr (.inl x11)), (13, .inl v26), (0, .inr (.inr 155)), (1, .inl x1), (2, .inl x2), (3, .inr (.inl x3)), (5, .inl x5), (6, .inr (.inl x6)), (8, .inl x8), (9, .inl x9), (10, .inl x10), (14, .inl x14)]) (by decide) rfl dX13_likely_227 ?_
          refine J_iinc (pc := 229) X (j := 11) (v := 1) (L' := [(14, .inl (x14 + 1)), (11, .inr (.inl x11)), (13, .inl v26), (0, .inr (.inr 155)), (1, .inl x1), (2, .inl x2), (3, .inr (.inl x3)), (5, .inl x5), (6, .inr (.inl x6)), (8, .inl x8), (9, .inl x9), (10, .inl x10)]) rfl (by decide) (by decide) rfl dX13_likely_229 ?_
          refine J_goto (pc := 232) X (tgt := 140) dX13_likely_232 rfl ?_
          refine J_sub [3, 4, 5, 6, 7, 8, 9, 10, 11, 1, 2, 0] rfl ?_
          exact hself _ _ _ _ _ hq
        · have hq := ite_f hq c28
          refine J_aload_n (pc := 208) X (j := 1) (i := 0) rfl rfl dX13_likely_208 ?_
          refine J_getF (pc := 209) X (b := 182) ly155 fl_13_114 rfl dX13_likely_209 ?_
          refine J_iconst (pc := 212) X (v := 5) (by decide) dX13_likely_212 ?_
          refine J_iload (pc := 213) X (j := 5) rfl dX13_likely_213 ?_
          refine J_iconst (pc := 215) X (v := 1) (by decide) dX13_likely_215 ?_
          refine J_iadd (pc := 216) X dX13_likely_216 ?_
          refine J_imul (pc := 217) X dX13_likely_217 ?_
          refine J_iload (pc := 218) X (j := 11) rfl dX13_likely_218 ?_
          refine J_iadd (pc := 220) X dX13_likely_220 ?_
          obtain ⟨g29, hq⟩ := gd hq
          refine J_laload (pc := 221) X ly182 g29 dX13_likely_221 ?_
          refine J_goto (pc := 222) X (tgt := 227) dX13_likely_222 rfl ?_
          refine J_ltL hq (fun v30 hq => ?_)
          refine J_lstore (pc := 227) X (L' := [(11, .inr (.inl v30)), (13, .inl v26), (0, .inr (.inr 155)), (1, .inl x1), (2, .inl x2), (3, .inr (.inl x3)), (5, .inl x5), (6, .inr (.inl x6)), (8, .inl x8), (9, .inl x9), (10, .inl x10), (14, .inl x14)]) (by decide) rfl dX13_likely_227 ?_
          refine J_iinc (pc := 229) X (j := 11) (v := 1) (L' := [(14, .inl (x14 + 1)), (11, .inr (.inl v30)), (13, .inl v26), (0, .inr (.inr 155)), (1, .inl x1), (2, .inl x2), (3, .inr (.inl x3)), (5, .inl x5), (6, .inr (.inl x6)), (8, .inl x8), (9, .inl x9), (10, .inl x10)]) rfl (by decide) (by decide) rfl dX13_likely_229 ?_
          refine J_goto (pc := 232) X (tgt := 140) dX13_likely_232 rfl ?_
          refine J_sub [3, 4, 5, 6, 7, 8, 9, 10, 11, 1, 2, 0] rfl ?_
          exact hself _ _ _ _ _ hq
      · have hq := ite_t hq c25
        refine J_goto (pc := 176) X (tgt := 229) dX13_likely_176 rfl ?_
        refine J_iinc (pc := 229) X (j := 11) (v := 1) (L' := [(14, .inl (x14 + 1)), (0, .inr (.inr 155)), (1, .inl x1), (2, .inl x2), (3, .inr (.inl x3)), (5, .inl x5), (6, .inr (.inl x6)), (8, .inl x8), (9, .inl x9), (10, .inl x10), (11, .inr (.inl x11)), (13, .inl x13)]) rfl (by decide) (by decide) rfl dX13_likely_229 ?_
        refine J_goto (pc := 232) X (tgt := 140) dX13_likely_232 rfl ?_
        refine J_sub [1, 2, 3, 4, 5, 6, 7, 8, 9, 10, 11, 0] rfl ?_
        exact hself _ _ _ _ _ hq
theorem tL_X13_likely_140 {κ : Kx} (X : OK κ cX13_likely 15 (none) "StruckWordsModel" 3) (x1 : Int32) (x2 : Int32) (x3 : Int64) (x5 : Int32) (x6 : Int64) (x8 : Int32) (x9 : Int32) (x10 : Int32) (k235 : Int64 → Int32 → Hp → Option Hp) (N : Nat) (x11 : Int64) (x13 : Int32) (x14 : Int32) (h : Hp) (q : Hp) (hk235 : ∀ (x11 : Int64) (x13 : Int32) (h : Hp) (q : Hp), k235 x11 x13 h = some q → J κ 235 [(0, .inr (.inr 155)), (1, .inl x1), (2, .inl x2), (3, .inr (.inl x3)), (5, .inl x5), (6, .inr (.inl x6)), (8, .inl x8), (9, .inl x9), (10, .inl x10), (11, .inr (.inl x11)), (13, .inl x13)] [] h (none, q)) (hq : itr4 (F_X13_likely_140 x1 x2 x3 x5 x6 x8 x9 x10 k235) N x11 x13 x14 h = some q) : J κ 140 [(0, .inr (.inr 155)), (1, .inl x1), (2, .inl x2), (3, .inr (.inl x3)), (5, .inl x5), (6, .inr (.inl x6)), (8, .inl x8), (9, .inl x9), (10, .inl x10), (11, .inr (.inl x11)), (13, .inl x13), (14, .inl x14)] [] h (none, q) :=
  itr4_ind (fun self hs x11 x13 x14 h q hq => tF_X13_likely_140 X x1 x2 x3 x5 x6 x8 x9 x10 k235 self x11 x13 x14 h q hk235 hs hq) N x11 x13 x14 h q hq
theorem tB_X13_likely_262 {κ : Kx} (X : OK κ cX13_likely 15 (none) "StruckWordsModel" 3) (x1 : Int32) (x2 : Int32) (x3 : Int64) (x5 : Int32) (k294 : Int64 → Int32 → Int32 → Hp → Option Hp) (self : Int64 → Int32 → Int32 → Int32 → Hp → Option Hp) (x6 : Int64) (x8 : Int32) (x9 : Int32) (x10 : Int32) (x13 : Int32) (t0 : Int64) (t1 : Int64) (h : Hp) (q : Hp) (hk294 : ∀ (x6 : Int64) (x8 : Int32) (x9 : Int32) (h : Hp) (q : Hp), k294 x6 x8 x9 h = some q → J κ 294 [(0, .inr (.inr 155)), (1, .inl x1), (3, .inr (.inl x3)), (5, .inl x5), (6, .inr (.inl x6)), (8, .inl x8), (9, .inl x9)] [] h (none, q)) (hself : ∀ (x6 : Int64) (x8 : Int32) (x9 : Int32) (x10 : Int32) (h : Hp) (q : Hp), self x6 x8 x9 x10 h = some q → J κ 106 [(0, .inr (.inr 155)), (1, .inl x1), (2, .inl x2), (3, .inr (.inl x3)), (5, .inl x5), (6, .inr (.inl x6)), (8, .inl x8), (9, .inl x9), (10, .inl x10)] [] h (none, q)) (hq : B_X13_likely_262 x1 x2 x3 x5 k294 self x6 x8 x9 x10 x13 t0 t1 h = some q) : J κ 262 [(0, .inr (.inr 155)), (1, .inl x1), (2, .inl x2), (3, .inr (.inl x3)), (5, .inl x5), (6, .inr (.inl x6)), (8, .inl x8), (9, .inl x9), (10, .inl x10), (13, .inl x13)] [.inr (.inl t0), .inr (.inl t1)] h (none, q) := by
  delta B_X13_likely_262 at hq
  refine J_lmul (pc := 262) X dX13_likely_262 ?_
  refine J_ltL hq (fun v36 hq => ?_)
  refine J_lstore (pc := 263) X (L' := [(11, .inr (.inl v36)), (0, .inr (.inr 155)), (1, .inl x1), (2, .inl x2), (3, .inr (.inl x3)), (5, .inl x5), (6, .inr (.inl x6)), (8, .inl x8), (9, .inl x9), (10, .inl x10), (13, .inl x13)]) (by decide) rfl dX13_likely_263 ?_
  refine J_lload (pc := 265) X (j := 0) rfl dX13_likely_265 ?_
  refine J_lload (pc := 267) X (j := 6) rfl dX13_likely_267 ?_
  refine J_lcmp (pc := 269) X dX13_likely_269 ?_
  refine J_if_gt (pc := 270) (tgt := 276) X dX13_likely_270 rfl (fun c37 => ?_) (fun c37 => ?_)
  · have hq := ite_t hq c37
    refine J_lload (pc := 276) X (j := 0) rfl dX13_likely_276 ?_
    refine J_lstore (pc := 278) X (L' := [(6, .inr (.inl v36)), (11, .inr (.inl v36)), (0, .inr (.inr 155)), (1, .inl x1), (2, .inl x2), (3, .inr (.inl x3)), (5, .inl x5), (8, .inl x8), (9, .inl x9), (10, .inl x10), (13, .inl x13)]) (by decide) rfl dX13_likely_278 ?_
    refine J_iload (pc := 280) X (j := 9) rfl dX13_likely_280 ?_
    refine J_istore (pc := 282) X (L' := [(8, .inl x10), (6, .inr (.inl v36)), (11, .inr (.inl v36)), (0, .inr (.inr 155)), (1, .inl x1), (2, .inl x2), (3, .inr (.inl x3)), (5, .inl x5), (9, .inl x9), (10, .inl x10), (13, .inl x13)]) (by decide) rfl dX13_likely_282 ?_
    refine J_iload (pc := 284) X (j := 10) rfl dX13_likely_284 ?_
    refine J_istore (pc := 286) X (L' := [(9, .inl x13), (8, .inl x10), (6, .inr (.inl v36)), (11, .inr (.inl v36)), (0, .inr (.inr 155)), (1, .inl x1), (2, .inl x2), (3, .inr (.inl x3)), (5, .inl x5), (10, .inl x10), (13, .inl x13)]) (by decide) rfl dX13_likely_286 ?_
    refine J_iinc (pc := 288) X (j := 9) (v := 1) (L' := [(10, .inl (x10 + 1)), (9, .inl x13), (8, .inl x10), (6, .inr (.inl v36)), (11, .inr (.inl v36)), (0, .inr (.inr 155)), (1, .inl x1), (2, .inl x2), (3, .inr (.inl x3)), (5, .inl x5), (13, .inl x13)]) rfl (by decide) (by decide) rfl dX13_likely_288 ?_
    refine J_goto (pc := 291) X (tgt := 106) dX13_likely_291 rfl ?_
    refine J_sub [5, 6, 7, 8, 9, 3, 2, 1, 0] rfl ?_
    exact hself _ _ _ _ _ _ hq
  · have hq := ite_f hq c37
    refine J_goto (pc := 273) X (tgt := 288) dX13_likely_273 rfl ?_
    refine J_iinc (pc := 288) X (j := 9) (v := 1) (L' := [(10, .inl (x10 + 1)), (11, .inr (.inl v36)), (0, .inr (.inr 155)), (1, .inl x1), (2, .inl x2), (3, .inr (.inl x3)), (5, .inl x5), (6, .inr (.inl x6)), (8, .inl x8), (9, .inl x9), (13, .inl x13)]) rfl (by decide) (by decide) rfl dX13_likely_288 ?_
    refine J_goto (pc := 291) X (tgt := 106) dX13_likely_291 rfl ?_
    refine J_sub [2, 3, 4, 5, 6, 7, 8, 9, 0] rfl ?_
    exact hself _ _ _ _ _ _ hq
theorem tF_X13_likely_106 {κ : Kx} (X : OK κ cX13_likely 15 (none) "StruckWordsModel" 3) (x1 : Int32) (x2 : Int32) (x3 : Int64) (x5 : Int32) (k294 : Int64 → Int32 → Int32 → Hp → Option Hp) (self : Int64 → Int32 → Int32 → Int32 → Hp → Option Hp) (x6 : Int64) (x8 : Int32) (x9 : Int32) (x10 : Int32) (h : Hp) (q : Hp) (hk294 : ∀ (x6 : Int64) (x8 : Int32) (x9 : Int32) (h : Hp) (q : Hp), k294 x6 x8 x9 h = some q → J κ 294 [(0, .inr (.inr 155)), (1, .inl x1), (3, .inr (.inl x3)), (5, .inl x5), (6, .inr (.inl x6)), (8, .inl x8), (9, .inl x9)] [] h (none, q)) (hself : ∀ (x6 : Int64) (x8 : Int32) (x9 : Int32) (x10 : Int32) (h : Hp) (q : Hp), self x6 x8 x9 x10 h = some q → J κ 106 [(0, .inr (.inr 155)), (1, .inl x1), (2, .inl x2), (3, .inr (.inl x3)), (5, .inl x5), (6, .inr (.inl x6)), (8, .inl x8), (9, .inl x9), (10, .inl x10)] [] h (none, q)) (hq : F_X13_likely_106 x1 x2 x3 x5 k294 self x6 x8 x9 x10 h = some q) : J κ 106 [(0, .inr (.inr 155)), (1, .inl x1), (2, .inl x2), (3, .inr (.inl x3)), (5, .inl x5), (6, .inr (.inl x6)), (8, .inl x8), (9, .inl x9), (10, .inl x10)] [] h (none, q) := by
  delta F_X13_likely_106 at hq
  refine J_iload (pc := 106) X (j := 8) rfl dX13_likely_106 ?_
  refine J_aload_n (pc := 108) X (j := 0) (i := 0) rfl rfl dX13_likely_108 ?_
  refine J_getF (pc := 109) X (b := 157) ly155 fl_13_33 rfl dX13_likely_109 ?_
  refine J_iconst (pc := 112) X (v := 2) (by decide) dX13_likely_112 ?_
  refine J_iaload (pc := 113) X ly157 (by decide) dX13_likely_113 ?_
  refine J_icmp_ge (pc := 114) (tgt := 294) X dX13_likely_114 rfl (fun c16 => ?_) (fun c16 => ?_)
  · have hq := ite_t hq c16
    refine J_sub [0, 1, 3, 4, 5, 6, 7] rfl ?_
    exact hk294 _ _ _ _ _ hq
  · have hq := ite_f hq c16
    refine J_aload_n (pc := 117) X (j := 0) (i := 0) rfl rfl dX13_likely_117 ?_
    refine J_iload (pc := 118) X (j := 4) rfl dX13_likely_118 ?_
    refine J_iload (pc := 120) X (j := 8) rfl dX13_likely_120 ?_
    obtain ⟨v18, h17, hc, hq⟩ := bnd_e hq
    refine J_callV (pc := 122) (as := [.inl x5, .inl x10]) (st := []) (st2 := [.inl v18]) (r1 := (some (.inl v18), h17)) (h2 := h17) (ky := 1) X dX13_likely_122 ca_X13_mayBe ci_X13_mayBe cs_X13_mayBe ml_13_402 (by decide) ly155 rfl rfl (m_X13_mayBe _ _ _ _ hc) rfl rfl (Nat.le_of_ble_eq_true rfl) rfl rfl ?_
    refine J_if_ne (pc := 125) (tgt := 131) X dX13_likely_125 rfl (fun c19 => ?_) (fun c19 => ?_)
    · have hq := ite_f hq c19
      refine J_lconst (pc := 131) X (v := 0) (by decide) dX13_likely_131 ?_
      refine J_lstore (pc := 132) X (L' := [(11, .inr (.inl 0)), (0, .inr (.inr 155)), (1, .inl x1), (2, .inl x2), (3, .inr (.inl x3)), (5, .inl x5), (6, .inr (.inl x6)), (8, .inl x8), (9, .inl x9), (10, .inl x10)]) (by decide) rfl dX13_likely_132 ?_
      refine J_iconst (pc := 134) X (v := 0) (by decide) dX13_likely_134 ?_
      refine J_istore (pc := 135) X (L' := [(13, .inl 0), (11, .inr (.inl 0)), (0, .inr (.inr 155)), (1, .inl x1), (2, .inl x2), (3, .inr (.inl x3)), (5, .inl x5), (6, .inr (.inl x6)), (8, .inl x8), (9, .inl x9), (10, .inl x10)]) (by decide) rfl dX13_likely_135 ?_
      refine J_iconst (pc := 137) X (v := 0) (by decide) dX13_likely_137 ?_
      refine J_istore (pc := 138) X (L' := [(14, .inl 0), (13, .inl 0), (11, .inr (.inl 0)), (0, .inr (.inr 155)), (1, .inl x1), (2, .inl x2), (3, .inr (.inl x3)), (5, .inl x5), (6, .inr (.inl x6)), (8, .inl x8), (9, .inl x9), (10, .inl x10)]) (by decide) rfl dX13_likely_138 ?_
      refine J_sub [3, 4, 5, 6, 7, 8, 9, 10, 11, 2, 1, 0] rfl ?_
      refine tL_X13_likely_140 X _ _ _ _ _ _ _ _ _ N0 _ _ _ _ _ ?_ hq
      · intro v32 v33 h31 q hq
        refine J_lload (pc := 235) X (j := 9) rfl dX13_likely_235 ?_
        refine J_aload_n (pc := 237) X (j := 0) (i := 0) rfl rfl dX13_likely_237 ?_
        refine J_getF (pc := 238) X (b := 178) ly155 fl_13_102 rfl dX13_likely_238 ?_
        refine J_iload (pc := 241) X (j := 4) rfl dX13_likely_241 ?_
        obtain ⟨g34, hq⟩ := gd hq
        refine J_iaload (pc := 243) X ly178 g34 dX13_likely_243 ?_
        refine J_if_ge (pc := 244) (tgt := 261) X dX13_likely_244 rfl (fun c35 => ?_) (fun c35 => ?_)
        · have hq := ite_t hq c35
          refine J_lconst (pc := 261) X (v := 1) (by decide) dX13_likely_261 ?_
          refine J_sub [0, 1, 2, 3, 4, 5, 6, 7, 8, 10] rfl ?_
          exact tB_X13_likely_262 X _ _ _ _ _ _ _ _ _ _ _ _ _ _ _ hk294 hself hq
        · have hq := ite_f hq c35
          refine J_aload_n (pc := 247) X (j := 0) (i := 0) rfl rfl dX13_likely_247 ?_
          refine J_getF (pc := 248) X (b := 157) ly155 fl_13_33 rfl dX13_likely_248 ?_
          refine J_bipush (pc := 251) X (v := 48) (by decide) dX13_likely_251 ?_
          refine J_iload (pc := 253) X (j := 8) rfl dX13_likely_253 ?_
          refine J_iadd (pc := 255) X dX13_likely_255 ?_
          obtain ⟨g38, hq⟩ := gd hq
          refine J_iaload (pc := 256) X ly157 g38 dX13_likely_256 ?_
          refine J_i2l (pc := 257) X dX13_likely_257 ?_
          refine J_goto (pc := 258) X (tgt := 262) dX13_likely_258 rfl ?_
          refine J_sub [0, 1, 2, 3, 4, 5, 6, 7, 8, 10] rfl ?_
          exact tB_X13_likely_262 X _ _ _ _ _ _ _ _ _ _ _ _ _ _ _ hk294 hself hq
    · have hq := ite_t hq c19
      refine J_goto (pc := 128) X (tgt := 288) dX13_likely_128 rfl ?_
      refine J_iinc (pc := 288) X (j := 8) (v := 1) (L' := [(10, .inl (x10 + 1)), (0, .inr (.inr 155)), (1, .inl x1), (2, .inl x2), (3, .inr (.inl x3)), (5, .inl x5), (6, .inr (.inl x6)), (8, .inl x8), (9, .inl x9)]) rfl (by decide) (by decide) rfl dX13_likely_288 ?_
      refine J_goto (pc := 291) X (tgt := 106) dX13_likely_291 rfl ?_
      refine J_sub [1, 2, 3, 4, 5, 6, 7, 8, 0] rfl ?_
      exact hself _ _ _ _ _ _ hq
theorem tL_X13_likely_106 {κ : Kx} (X : OK κ cX13_likely 15 (none) "StruckWordsModel" 3) (x1 : Int32) (x2 : Int32) (x3 : Int64) (x5 : Int32) (k294 : Int64 → Int32 → Int32 → Hp → Option Hp) (N : Nat) (x6 : Int64) (x8 : Int32) (x9 : Int32) (x10 : Int32) (h : Hp) (q : Hp) (hk294 : ∀ (x6 : Int64) (x8 : Int32) (x9 : Int32) (h : Hp) (q : Hp), k294 x6 x8 x9 h = some q → J κ 294 [(0, .inr (.inr 155)), (1, .inl x1), (3, .inr (.inl x3)), (5, .inl x5), (6, .inr (.inl x6)), (8, .inl x8), (9, .inl x9)] [] h (none, q)) (hq : itr5 (F_X13_likely_106 x1 x2 x3 x5 k294) N x6 x8 x9 x10 h = some q) : J κ 106 [(0, .inr (.inr 155)), (1, .inl x1), (2, .inl x2), (3, .inr (.inl x3)), (5, .inl x5), (6, .inr (.inl x6)), (8, .inl x8), (9, .inl x9), (10, .inl x10)] [] h (none, q) :=
  itr5_ind (fun self hs x6 x8 x9 x10 h q hq => tF_X13_likely_106 X x1 x2 x3 x5 k294 self x6 x8 x9 x10 h q hk294 hs hq) N x6 x8 x9 x10 h q hq
theorem tB_X13_likely_302 {κ : Kx} (X : OK κ cX13_likely 15 (none) "StruckWordsModel" 3) (x1 : Int32) (k307 : Hp → Option Hp) (k331 : Int64 → Hp → Option Hp) (self : Int32 → Int64 → Int32 → Hp → Option Hp) (x3 : Int64) (x5 : Int32) (x8 : Int32) (x9 : Int32) (h : Hp) (q : Hp) (hk307 : ∀ (h : Hp) (q : Hp), k307 h = some q → J κ 307 [(0, .inr (.inr 155))] [] h (none, q)) (hk331 : ∀ (x3 : Int64) (h : Hp) (q : Hp), k331 x3 h = some q → J κ 331 [(0, .inr (.inr 155)), (1, .inl x1), (3, .inr (.inl x3))] [] h (none, q)) (hself : ∀ (x2 : Int32) (x3 : Int64) (x5 : Int32) (h : Hp) (q : Hp), self x2 x3 x5 h = some q → J κ 88 [(0, .inr (.inr 155)), (1, .inl x1), (2, .inl x2), (3, .inr (.inl x3)), (5, .inl x5)] [] h (none, q)) (hq : B_X13_likely_302 x1 k307 k331 self x3 x5 x8 x9 h = some q) : J κ 302 [(0, .inr (.inr 155)), (1, .inl x1), (3, .inr (.inl x3)), (5, .inl x5), (8, .inl x8), (9, .inl x9)] [] h (none, q) := by
  delta B_X13_likely_302 at hq
  refine J_iload (pc := 302) X (j := 4) rfl dX13_likely_302 ?_
  refine J_if_ge (pc := 304) (tgt := 313) X dX13_likely_304 rfl (fun c44 => ?_) (fun c44 => ?_)
  · have hq := ite_t hq c44
    refine J_aload_n (pc := 313) X (j := 0) (i := 0) rfl rfl dX13_likely_313 ?_
    refine J_getF (pc := 314) X (b := 180) ly155 fl_13_108 rfl dX13_likely_314 ?_
    refine J_iload (pc := 317) X (j := 3) rfl dX13_likely_317 ?_
    refine J_iload (pc := 319) X (j := 4) rfl dX13_likely_319 ?_
    obtain ⟨g45, hq⟩ := gd hq
    refine J_iastore (pc := 321) X ly180 g45 dX13_likely_321 ?_
    refine J_ltH hq (fun h46 hq => ?_)
    refine J_iload (pc := 322) X (j := 5) rfl dX13_likely_322 ?_
    refine J_istore_n (pc := 324) X (L' := [(2, .inl x9), (0, .inr (.inr 155)), (1, .inl x1), (3, .inr (.inl x3)), (5, .inl x5), (8, .inl x8), (9, .inl x9)]) (i := 2) rfl (by decide) rfl dX13_likely_324 ?_
    refine J_iinc (pc := 325) X (j := 4) (v := 1) (L' := [(5, .inl (x5 + 1)), (2, .inl x9), (0, .inr (.inr 155)), (1, .inl x1), (3, .inr (.inl x3)), (8, .inl x8), (9, .inl x9)]) rfl (by decide) (by decide) rfl dX13_likely_325 ?_
    refine J_goto (pc := 328) X (tgt := 88) dX13_likely_328 rfl ?_
    refine J_sub [2, 3, 1, 4, 0] rfl ?_
    exact hself _ _ _ _ _ hq
  · have hq := ite_f hq c44
    refine J_sub [0] rfl ?_
    exact hk307 _ _ hq
theorem tF_X13_likely_88 {κ : Kx} (X : OK κ cX13_likely 15 (none) "StruckWordsModel" 3) (x1 : Int32) (k307 : Hp → Option Hp) (k331 : Int64 → Hp → Option Hp) (self : Int32 → Int64 → Int32 → Hp → Option Hp) (x2 : Int32) (x3 : Int64) (x5 : Int32) (h : Hp) (q : Hp) (hk307 : ∀ (h : Hp) (q : Hp), k307 h = some q → J κ 307 [(0, .inr (.inr 155))] [] h (none, q)) (hk331 : ∀ (x3 : Int64) (h : Hp) (q : Hp), k331 x3 h = some q → J κ 331 [(0, .inr (.inr 155)), (1, .inl x1), (3, .inr (.inl x3))] [] h (none, q)) (hself : ∀ (x2 : Int32) (x3 : Int64) (x5 : Int32) (h : Hp) (q : Hp), self x2 x3 x5 h = some q → J κ 88 [(0, .inr (.inr 155)), (1, .inl x1), (2, .inl x2), (3, .inr (.inl x3)), (5, .inl x5)] [] h (none, q)) (hq : F_X13_likely_88 x1 k307 k331 self x2 x3 x5 h = some q) : J κ 88 [(0, .inr (.inr 155)), (1, .inl x1), (2, .inl x2), (3, .inr (.inl x3)), (5, .inl x5)] [] h (none, q) := by
  delta F_X13_likely_88 at hq
  refine J_iload (pc := 88) X (j := 4) rfl dX13_likely_88 ?_
  refine J_iload_n (pc := 90) X (j := 1) (i := 1) rfl rfl dX13_likely_90 ?_
  refine J_icmp_ge (pc := 91) (tgt := 331) X dX13_likely_91 rfl (fun c15 => ?_) (fun c15 => ?_)
  · have hq := ite_t hq c15
    refine J_sub [0, 1, 3] rfl ?_
    exact hk331 _ _ _ hq
  · have hq := ite_f hq c15
    refine J_lconst (pc := 94) X (v := 0) (by decide) dX13_likely_94 ?_
    refine J_lstore (pc := 95) X (L' := [(6, .inr (.inl 0)), (0, .inr (.inr 155)), (1, .inl x1), (2, .inl x2), (3, .inr (.inl x3)), (5, .inl x5)]) (by decide) rfl dX13_likely_95 ?_
    refine J_iconst (pc := 97) X (v := (-1)) (by decide) dX13_likely_97 ?_
    refine J_istore (pc := 98) X (L' := [(8, .inl (-1)), (6, .inr (.inl 0)), (0, .inr (.inr 155)), (1, .inl x1), (2, .inl x2), (3, .inr (.inl x3)), (5, .inl x5)]) (by decide) rfl dX13_likely_98 ?_
    refine J_iconst (pc := 100) X (v := 0) (by decide) dX13_likely_100 ?_
    refine J_istore (pc := 101) X (L' := [(9, .inl 0), (8, .inl (-1)), (6, .inr (.inl 0)), (0, .inr (.inr 155)), (1, .inl x1), (2, .inl x2), (3, .inr (.inl x3)), (5, .inl x5)]) (by decide) rfl dX13_likely_101 ?_
    refine J_iconst (pc := 103) X (v := 0) (by decide) dX13_likely_103 ?_
    refine J_istore (pc := 104) X (L' := [(10, .inl 0), (9, .inl 0), (8, .inl (-1)), (6, .inr (.inl 0)), (0, .inr (.inr 155)), (1, .inl x1), (2, .inl x2), (3, .inr (.inl x3)), (5, .inl x5)]) (by decide) rfl dX13_likely_104 ?_
    refine J_sub [4, 5, 6, 7, 8, 3, 2, 1, 0] rfl ?_
    refine tL_X13_likely_106 X _ _ _ _ _ N0 _ _ _ _ _ _ ?_ hq
    · intro v40 v41 v42 h39 q hq
      refine J_iload (pc := 294) X (j := 3) rfl dX13_likely_294 ?_
      refine J_if_ne (pc := 296) (tgt := 302) X dX13_likely_296 rfl (fun c43 => ?_) (fun c43 => ?_)
      · have hq := ite_f hq c43
        refine J_sub [0, 1, 2, 3, 5, 6] rfl ?_
        exact tB_X13_likely_302 X _ _ _ _ _ _ _ _ _ _ hk307 hk331 hself hq
      · have hq := ite_t hq c43
        refine J_lload (pc := 299) X (j := 4) rfl dX13_likely_299 ?_
        refine J_lstore_n (pc := 301) X (L' := [(3, .inr (.inl v40)), (0, .inr (.inr 155)), (1, .inl x1), (5, .inl x5), (6, .inr (.inl v40)), (8, .inl v41), (9, .inl v42)]) (i := 3) rfl (by decide) rfl dX13_likely_301 ?_
        refine J_sub [1, 2, 0, 3, 5, 6] rfl ?_
        exact tB_X13_likely_302 X _ _ _ _ _ _ _ _ _ _ hk307 hk331 hself hq
theorem tL_X13_likely_88 {κ : Kx} (X : OK κ cX13_likely 15 (none) "StruckWordsModel" 3) (x1 : Int32) (k307 : Hp → Option Hp) (k331 : Int64 → Hp → Option Hp) (N : Nat) (x2 : Int32) (x3 : Int64) (x5 : Int32) (h : Hp) (q : Hp) (hk307 : ∀ (h : Hp) (q : Hp), k307 h = some q → J κ 307 [(0, .inr (.inr 155))] [] h (none, q)) (hk331 : ∀ (x3 : Int64) (h : Hp) (q : Hp), k331 x3 h = some q → J κ 331 [(0, .inr (.inr 155)), (1, .inl x1), (3, .inr (.inl x3))] [] h (none, q)) (hq : itr4 (F_X13_likely_88 x1 k307 k331) N x2 x3 x5 h = some q) : J κ 88 [(0, .inr (.inr 155)), (1, .inl x1), (2, .inl x2), (3, .inr (.inl x3)), (5, .inl x5)] [] h (none, q) :=
  itr4_ind (fun self hs x2 x3 x5 h q hq => tF_X13_likely_88 X x1 k307 k331 self x2 x3 x5 h q hk307 hk331 hs hq) N x2 x3 x5 h q hq
theorem tf_X13_likely {κ : Kx} (X : OK κ cX13_likely 15 (none) "StruckWordsModel" 3) (x1 : Int32) (h : Hp) (q : Hp) (hq : f_X13_likely x1 h = some q) : J κ 0 [(0, .inr (.inr 155)), (1, .inl x1)] [] h (none, q) := by
  delta f_X13_likely at hq
  refine J_iconst (pc := 0) X (v := 0) (by decide) dX13_likely_0 ?_
  refine J_istore_n (pc := 1) X (L' := [(2, .inl 0), (0, .inr (.inr 155)), (1, .inl x1)]) (i := 2) rfl (by decide) rfl dX13_likely_1 ?_
  refine J_sub [1, 2, 0] rfl ?_
  refine tL_X13_likely_2 X _ _ N0 _ _ _ ?_ hq
  · intro h5 q hq
    refine J_iload_n (pc := 33) X (j := 1) (i := 1) rfl rfl dX13_likely_33 ?_
    refine J_iconst (pc := 34) X (v := 1) (by decide) dX13_likely_34 ?_
    refine J_isub (pc := 35) X dX13_likely_35 ?_
    refine J_istore_n (pc := 36) X (L' := [(2, .inl (x1 - 1)), (0, .inr (.inr 155)), (1, .inl x1)]) (i := 2) rfl (by decide) rfl dX13_likely_36 ?_
    refine J_sub [1, 2, 0] rfl ?_
    refine tL_X13_likely_37 X _ _ N0 _ _ _ ?_ hq
    · intro h13 q hq
      refine J_aload_n (pc := 76) X (j := 0) (i := 0) rfl rfl dX13_likely_76 ?_
      refine J_iconst (pc := 77) X (v := 0) (by decide) dX13_likely_77 ?_
      refine J_putI (pc := 78) X ly155 fp_13_409 dX13_likely_78 ?_
      refine J_ltH hq (fun h14 hq => ?_)
      refine J_iconst (pc := 81) X (v := 0) (by decide) dX13_likely_81 ?_
      refine J_istore_n (pc := 82) X (L' := [(2, .inl 0), (0, .inr (.inr 155)), (1, .inl x1)]) (i := 2) rfl (by decide) rfl dX13_likely_82 ?_
      refine J_lconst (pc := 83) X (v := 0) (by decide) dX13_likely_83 ?_
      refine J_lstore_n (pc := 84) X (L' := [(3, .inr (.inl 0)), (2, .inl 0), (0, .inr (.inr 155)), (1, .inl x1)]) (i := 3) rfl (by decide) rfl dX13_likely_84 ?_
      refine J_iconst (pc := 85) X (v := 0) (by decide) dX13_likely_85 ?_
      refine J_istore (pc := 86) X (L' := [(5, .inl 0), (3, .inr (.inl 0)), (2, .inl 0), (0, .inr (.inr 155)), (1, .inl x1)]) (by decide) rfl dX13_likely_86 ?_
      refine J_sub [3, 4, 2, 1, 0] rfl ?_
      refine tL_X13_likely_88 X _ _ _ N0 _ _ _ _ _ ?_ ?_ hq
      · intro h47 q hq
        refine J_aload_n (pc := 307) X (j := 0) (i := 0) rfl rfl dX13_likely_307 ?_
        refine J_lconst (pc := 308) X (v := 0) (by decide) dX13_likely_308 ?_
        refine J_putL (pc := 309) X ly155 fp_13_415 dX13_likely_309 ?_
        refine J_ltH hq (fun h48 hq => ?_)
        obtain rfl := Option.some.inj hq
        exact J_vret (pc := 312) X dX13_likely_312
      · intro v50 h49 q hq
        refine J_aload_n (pc := 331) X (j := 0) (i := 0) rfl rfl dX13_likely_331 ?_
        refine J_iload_n (pc := 332) X (j := 1) (i := 1) rfl rfl dX13_likely_332 ?_
        refine J_putI (pc := 333) X ly155 fp_13_409 dX13_likely_333 ?_
        refine J_ltH hq (fun h51 hq => ?_)
        refine J_aload_n (pc := 336) X (j := 0) (i := 0) rfl rfl dX13_likely_336 ?_
        refine J_lload_n (pc := 337) X (j := 2) (i := 3) rfl rfl dX13_likely_337 ?_
        refine J_putL (pc := 338) X ly155 fp_13_415 dX13_likely_338 ?_
        refine J_ltH hq (fun h52 hq => ?_)
        obtain rfl := Option.some.inj hq
        exact J_vret (pc := 341) X dX13_likely_341
theorem m_X13_likely (x1 : Int32) (h : Hp) (q : Hp) (hq : f_X13_likely x1 h = some q) : ∀ l w, CT l w yX13_likely cX13_likely 15 (none) 3 [.inr (.inr 155), .inl x1] h (none, q) :=
  CT_of (L0 := [(0, .inr (.inr 155)), (1, .inl x1)]) (by decide) rfl (Nat.le_of_ble_eq_true rfl) (fun κ X => tf_X13_likely X x1 h q  hq)
theorem tF_X13_torn_49 {κ : Kx} (X : OK κ cX13_torn 6 (some .long) "StruckWordsModel" 4) (x1 : Int32) (x2 : Int32) (k98 : Hp → Option (Int64 × Hp)) (k123 : Int32 → Hp → Option (Int64 × Hp)) (self : Int32 → Int32 → Hp → Option (Int64 × Hp)) (x3 : Int32) (x4 : Int32) (h : Hp) (q : (Int64 × Hp)) (hk98 : ∀ (h : Hp) (q : (Int64 × Hp)), k98 h = some q → J κ 98 [] [] h (some (.inr (.inl q.1)), q.2)) (hk123 : ∀ (x3 : Int32) (h : Hp) (q : (Int64 × Hp)), k123 x3 h = some q → J κ 123 [(0, .inr (.inr 155)), (2, .inl x2), (3, .inl x3)] [] h (some (.inr (.inl q.1)), q.2)) (hself : ∀ (x3 : Int32) (x4 : Int32) (h : Hp) (q : (Int64 × Hp)), self x3 x4 h = some q → J κ 49 [(0, .inr (.inr 155)), (1, .inl x1), (2, .inl x2), (3, .inl x3), (4, .inl x4)] [] h (some (.inr (.inl q.1)), q.2)) (hq : F_X13_torn_49 x1 x2 k98 k123 self x3 x4 h = some q) : J κ 49 [(0, .inr (.inr 155)), (1, .inl x1), (2, .inl x2), (3, .inl x3), (4, .inl x4)] [] h (some (.inr (.inl q.1)), q.2) := by
  delta F_X13_torn_49 at hq
  refine J_iload (pc := 49) X (j := 4) rfl dX13_torn_49 ?_
  refine J_iload_n (pc := 51) X (j := 2) (i := 2) rfl rfl dX13_torn_51 ?_
  refine J_icmp_ge (pc := 52) (tgt := 123) X dX13_torn_52 rfl (fun c10 => ?_) (fun c10 => ?_)
  · have hq := ite_t hq c10
    refine J_sub [0, 2, 3] rfl ?_
    exact hk123 _ _ _ hq
  · have hq := ite_f hq c10
    refine J_aload_n (pc := 55) X (j := 0) (i := 0) rfl rfl dX13_torn_55 ?_
    refine J_getF (pc := 56) X (b := 178) ly155 fl_13_102 rfl dX13_torn_56 ?_
    refine J_iload (pc := 59) X (j := 4) rfl dX13_torn_59 ?_
    refine J_iconst (pc := 61) X (v := (-1)) (by decide) dX13_torn_61 ?_
    obtain ⟨g11, hq⟩ := gd hq
    refine J_iastore (pc := 62) X ly178 g11 dX13_torn_62 ?_
    refine J_ltH hq (fun h12 hq => ?_)
    refine J_aload_n (pc := 63) X (j := 0) (i := 0) rfl rfl dX13_torn_63 ?_
    refine J_iload_n (pc := 64) X (j := 1) (i := 1) rfl rfl dX13_torn_64 ?_
    refine J_iload (pc := 65) X (j := 4) rfl dX13_torn_65 ?_
    refine J_iconst (pc := 67) X (v := 1) (by decide) dX13_torn_67 ?_
    refine J_iadd (pc := 68) X dX13_torn_68 ?_
    obtain ⟨v14, h13, hc, hq⟩ := bnd_e hq
    refine J_callV (pc := 69) (as := [.inl x1, .inl (x4 + 1)]) (st := []) (st2 := [.inl v14]) (r1 := (some (.inl v14), h13)) (h2 := h13) (ky := 1) X dX13_torn_69 ca_X13_isStruck ci_X13_isStruck cs_X13_isStruck ml_13_300 (by decide) ly155 rfl rfl (m_X13_isStruck _ _ _ _ hc) rfl rfl (Nat.le_of_ble_eq_true rfl) rfl rfl ?_
    refine J_if_eq (pc := 72) (tgt := 78) X dX13_torn_72 rfl (fun c15 => ?_) (fun c15 => ?_)
    · have hq := ite_t hq c15
      refine J_iload_n (pc := 78) X (j := 3) (i := 3) rfl rfl dX13_torn_78 ?_
      refine J_aload_n (pc := 79) X (j := 0) (i := 0) rfl rfl dX13_torn_79 ?_
      refine J_getI (pc := 80) X ly155 fl_13_18 dX13_torn_80 ?_
      refine J_icmp_ge (pc := 83) (tgt := 98) X dX13_torn_83 rfl (fun c16 => ?_) (fun c16 => ?_)
      · have hq := ite_t hq c16
        refine J_sub [] rfl ?_
        exact hk98 _ _ hq
      · have hq := ite_f hq c16
        refine J_aload_n (pc := 86) X (j := 0) (i := 0) rfl rfl dX13_torn_86 ?_
        refine J_aload_n (pc := 87) X (j := 0) (i := 0) rfl rfl dX13_torn_87 ?_
        refine J_iload_n (pc := 88) X (j := 3) (i := 3) rfl rfl dX13_torn_88 ?_
        obtain ⟨v18, h17, hc, hq⟩ := bnd_e hq
        refine J_callV (pc := 89) (as := [.inl x3]) (st := [.inr (.inr 155)]) (st2 := [.inl v18, .inr (.inr 155)]) (r1 := (some (.inl v18), h17)) (h2 := h17) (ky := 1) X dX13_torn_89 ca_X13_octet ci_X13_octet cs_X13_octet ml_13_283 (by decide) ly155 rfl rfl (m_X13_octet _ _ _ hc) rfl rfl (Nat.le_of_ble_eq_true rfl) rfl rfl ?_
        obtain ⟨v20, h19, hc, hq⟩ := bnd_e hq
        refine J_callV (pc := 92) (as := [.inl v18]) (st := []) (st2 := [.inl v20]) (r1 := (some (.inl v20), h19)) (h2 := h19) (ky := 2) X dX13_torn_92 ca_X13_isSaying ci_X13_isSaying cs_X13_isSaying ml_13_272 (by decide) ly155 rfl rfl (m_X13_isSaying _ _ _ hc) rfl rfl (Nat.le_of_ble_eq_true rfl) rfl rfl ?_
        refine J_if_ne (pc := 95) (tgt := 102) X dX13_torn_95 rfl (fun c21 => ?_) (fun c21 => ?_)
        · have hq := ite_f hq c21
          refine J_aload_n (pc := 102) X (j := 0) (i := 0) rfl rfl dX13_torn_102 ?_
          refine J_getF (pc := 103) X (b := 178) ly155 fl_13_102 rfl dX13_torn_103 ?_
          refine J_iload (pc := 106) X (j := 4) rfl dX13_torn_106 ?_
          refine J_aload_n (pc := 108) X (j := 0) (i := 0) rfl rfl dX13_torn_108 ?_
          refine J_iload_n (pc := 109) X (j := 3) (i := 3) rfl rfl dX13_torn_109 ?_
          obtain ⟨v23, h22, hc, hq⟩ := bnd_e hq
          refine J_callV (pc := 110) (as := [.inl x3]) (st := [.inl x4, .inr (.inr 178)]) (st2 := [.inl v23, .inl x4, .inr (.inr 178)]) (r1 := (some (.inl v23), h22)) (h2 := h22) (ky := 1) X dX13_torn_110 ca_X13_octet ci_X13_octet cs_X13_octet ml_13_283 (by decide) ly155 rfl rfl (m_X13_octet _ _ _ hc) rfl rfl (Nat.le_of_ble_eq_true rfl) rfl rfl ?_
          obtain ⟨g24, hq⟩ := gd hq
          refine J_iastore (pc := 113) X ly178 g24 dX13_torn_113 ?_
          refine J_ltH hq (fun h25 hq => ?_)
          refine J_iinc (pc := 114) X (j := 3) (v := 1) (L' := [(3, .inl (x3 + 1)), (0, .inr (.inr 155)), (1, .inl x1), (2, .inl x2), (4, .inl x4)]) rfl (by decide) (by decide) rfl dX13_torn_114 ?_
          refine J_iinc (pc := 117) X (j := 4) (v := 1) (L' := [(4, .inl (x4 + 1)), (3, .inl (x3 + 1)), (0, .inr (.inr 155)), (1, .inl x1), (2, .inl x2)]) rfl (by decide) (by decide) rfl dX13_torn_117 ?_
          refine J_goto (pc := 120) X (tgt := 49) dX13_torn_120 rfl ?_
          refine J_sub [2, 3, 4, 1, 0] rfl ?_
          exact hself _ _ _ _ hq
        · have hq := ite_t hq c21
          refine J_sub [] rfl ?_
          exact hk98 _ _ hq
    · have hq := ite_f hq c15
      refine J_goto (pc := 75) X (tgt := 117) dX13_torn_75 rfl ?_
      refine J_iinc (pc := 117) X (j := 4) (v := 1) (L' := [(4, .inl (x4 + 1)), (0, .inr (.inr 155)), (1, .inl x1), (2, .inl x2), (3, .inl x3)]) rfl (by decide) (by decide) rfl dX13_torn_117 ?_
      refine J_goto (pc := 120) X (tgt := 49) dX13_torn_120 rfl ?_
      refine J_sub [1, 2, 3, 4, 0] rfl ?_
      exact hself _ _ _ _ hq
theorem tL_X13_torn_49 {κ : Kx} (X : OK κ cX13_torn 6 (some .long) "StruckWordsModel" 4) (x1 : Int32) (x2 : Int32) (k98 : Hp → Option (Int64 × Hp)) (k123 : Int32 → Hp → Option (Int64 × Hp)) (N : Nat) (x3 : Int32) (x4 : Int32) (h : Hp) (q : (Int64 × Hp)) (hk98 : ∀ (h : Hp) (q : (Int64 × Hp)), k98 h = some q → J κ 98 [] [] h (some (.inr (.inl q.1)), q.2)) (hk123 : ∀ (x3 : Int32) (h : Hp) (q : (Int64 × Hp)), k123 x3 h = some q → J κ 123 [(0, .inr (.inr 155)), (2, .inl x2), (3, .inl x3)] [] h (some (.inr (.inl q.1)), q.2)) (hq : itr3 (F_X13_torn_49 x1 x2 k98 k123) N x3 x4 h = some q) : J κ 49 [(0, .inr (.inr 155)), (1, .inl x1), (2, .inl x2), (3, .inl x3), (4, .inl x4)] [] h (some (.inr (.inl q.1)), q.2) :=
  itr3_ind (fun self hs x3 x4 h q hq => tF_X13_torn_49 X x1 x2 k98 k123 self x3 x4 h q hk98 hk123 hs hq) N x3 x4 h q hq
theorem tB_X13_torn_237 {κ : Kx} (X : OK κ cX13_torn 6 (some .long) "StruckWordsModel" 4) (x2 : Int32) (x4 : Int32) (k245 : Hp → Option (Int64 × Hp)) (self : Int32 → Hp → Option (Int64 × Hp)) (x5 : Int32) (t0 : Int32) (t1 : Int32) (t2 : Int32) (h : Hp) (q : (Int64 × Hp)) (hk245 : ∀ (h : Hp) (q : (Int64 × Hp)), k245 h = some q → J κ 245 [(0, .inr (.inr 155)), (2, .inl x2)] [] h (some (.inr (.inl q.1)), q.2)) (hself : ∀ (x5 : Int32) (h : Hp) (q : (Int64 × Hp)), self x5 h = some q → J κ 167 [(0, .inr (.inr 155)), (2, .inl x2), (4, .inl x4), (5, .inl x5)] [] h (some (.inr (.inl q.1)), q.2)) (hq : B_X13_torn_237 x2 x4 k245 self x5 t0 t1 t2 h = some q) : J κ 237 [(0, .inr (.inr 155)), (2, .inl x2), (4, .inl x4), (5, .inl x5)] [.inl t0, .inl t1, .inl t2, .inr (.inr 179)] h (some (.inr (.inl q.1)), q.2) := by
  delta B_X13_torn_237 at hq
  refine J_ior (pc := 237) X dX13_torn_237 ?_
  obtain ⟨g45, hq⟩ := gd hq
  refine J_iastore (pc := 238) X ly179 g45 dX13_torn_238 ?_
  refine J_ltH hq (fun h46 hq => ?_)
  refine J_iinc (pc := 239) X (j := 3) (v := 1) (L' := [(5, .inl (x5 + 1)), (0, .inr (.inr 155)), (2, .inl x2), (4, .inl x4)]) rfl (by decide) (by decide) rfl dX13_torn_239 ?_
  refine J_goto (pc := 242) X (tgt := 167) dX13_torn_242 rfl ?_
  refine J_sub [1, 2, 3, 0] rfl ?_
  exact hself _ _ _ hq
theorem tB_X13_torn_209 {κ : Kx} (X : OK κ cX13_torn 6 (some .long) "StruckWordsModel" 4) (x2 : Int32) (x4 : Int32) (k245 : Hp → Option (Int64 × Hp)) (self : Int32 → Hp → Option (Int64 × Hp)) (x5 : Int32) (t0 : Int32) (t1 : Int32) (t2 : Int32) (h : Hp) (q : (Int64 × Hp)) (hk245 : ∀ (h : Hp) (q : (Int64 × Hp)), k245 h = some q → J κ 245 [(0, .inr (.inr 155)), (2, .inl x2)] [] h (some (.inr (.inl q.1)), q.2)) (hself : ∀ (x5 : Int32) (h : Hp) (q : (Int64 × Hp)), self x5 h = some q → J κ 167 [(0, .inr (.inr 155)), (2, .inl x2), (4, .inl x4), (5, .inl x5)] [] h (some (.inr (.inl q.1)), q.2)) (hq : B_X13_torn_209 x2 x4 k245 self x5 t0 t1 t2 h = some q) : J κ 209 [(0, .inr (.inr 155)), (2, .inl x2), (4, .inl x4), (5, .inl x5)] [.inl t0, .inl t1, .inl t2, .inr (.inr 179)] h (some (.inr (.inl q.1)), q.2) := by
  delta B_X13_torn_209 at hq
  refine J_ior (pc := 209) X dX13_torn_209 ?_
  obtain ⟨g40, hq⟩ := gd hq
  refine J_iastore (pc := 210) X ly179 g40 dX13_torn_210 ?_
  refine J_ltH hq (fun h41 hq => ?_)
  refine J_aload_n (pc := 211) X (j := 0) (i := 0) rfl rfl dX13_torn_211 ?_
  refine J_getF (pc := 212) X (b := 179) ly155 fl_13_105 rfl dX13_torn_212 ?_
  refine J_iconst (pc := 215) X (v := 2) (by decide) dX13_torn_215 ?_
  refine J_dup2 (pc := 216) X rfl rfl dX13_torn_216 ?_
  refine J_iaload (pc := 217) X ly179 (by decide) dX13_torn_217 ?_
  refine J_iload (pc := 218) X (j := 2) rfl dX13_torn_218 ?_
  refine J_iload (pc := 220) X (j := 3) rfl dX13_torn_220 ?_
  refine J_iconst (pc := 222) X (v := 0) (by decide) dX13_torn_222 ?_
  obtain ⟨v43, h42, hc, hq⟩ := bnd_e hq
  refine J_callS (pc := 223) (as := [.inl x4, .inl x5, .inl 0]) (st := [.inl (h41.1 179 ((2 : Int32).toNatClampNeg)), .inl 2, .inr (.inr 179)]) (st2 := [.inl v43, .inl (h41.1 179 ((2 : Int32).toNatClampNeg)), .inl 2, .inr (.inr 179)]) (r1 := (some (.inl v43), h42)) (h2 := h42) (ky := 2) X dX13_torn_223 ca_X13_isAll cz_X13_isAll ml_13_341 (by decide) (m_X13_isAll _ _ _ _ _ hc) rfl rfl (Nat.le_of_ble_eq_true rfl) rfl rfl ?_
  refine J_if_eq (pc := 226) (tgt := 236) X dX13_torn_226 rfl (fun c44 => ?_) (fun c44 => ?_)
  · have hq := ite_t hq c44
    refine J_iconst (pc := 236) X (v := 0) (by decide) dX13_torn_236 ?_
    exact tB_X13_torn_237 X _ _ _ _ _ _ _ _ _ _ hk245 hself hq
  · have hq := ite_f hq c44
    refine J_iconst (pc := 229) X (v := 1) (by decide) dX13_torn_229 ?_
    refine J_iload (pc := 230) X (j := 3) rfl dX13_torn_230 ?_
    refine J_ishl (pc := 232) X dX13_torn_232 ?_
    refine J_goto (pc := 233) X (tgt := 237) dX13_torn_233 rfl ?_
    exact tB_X13_torn_237 X _ _ _ _ _ _ _ _ _ _ hk245 hself hq
theorem tF_X13_torn_167 {κ : Kx} (X : OK κ cX13_torn 6 (some .long) "StruckWordsModel" 4) (x2 : Int32) (x4 : Int32) (k245 : Hp → Option (Int64 × Hp)) (self : Int32 → Hp → Option (Int64 × Hp)) (x5 : Int32) (h : Hp) (q : (Int64 × Hp)) (hk245 : ∀ (h : Hp) (q : (Int64 × Hp)), k245 h = some q → J κ 245 [(0, .inr (.inr 155)), (2, .inl x2)] [] h (some (.inr (.inl q.1)), q.2)) (hself : ∀ (x5 : Int32) (h : Hp) (q : (Int64 × Hp)), self x5 h = some q → J κ 167 [(0, .inr (.inr 155)), (2, .inl x2), (4, .inl x4), (5, .inl x5)] [] h (some (.inr (.inl q.1)), q.2)) (hq : F_X13_torn_167 x2 x4 k245 self x5 h = some q) : J κ 167 [(0, .inr (.inr 155)), (2, .inl x2), (4, .inl x4), (5, .inl x5)] [] h (some (.inr (.inl q.1)), q.2) := by
  delta F_X13_torn_167 at hq
  refine J_iload (pc := 167) X (j := 3) rfl dX13_torn_167 ?_
  refine J_aload_n (pc := 169) X (j := 0) (i := 0) rfl rfl dX13_torn_169 ?_
  refine J_getF (pc := 170) X (b := 157) ly155 fl_13_33 rfl dX13_torn_170 ?_
  refine J_iconst (pc := 173) X (v := 1) (by decide) dX13_torn_173 ?_
  refine J_iaload (pc := 174) X ly157 (by decide) dX13_torn_174 ?_
  refine J_icmp_ge (pc := 175) (tgt := 245) X dX13_torn_175 rfl (fun c35 => ?_) (fun c35 => ?_)
  · have hq := ite_t hq c35
    refine J_sub [0, 1] rfl ?_
    exact hk245 _ _ hq
  · have hq := ite_f hq c35
    refine J_iload (pc := 178) X (j := 2) rfl dX13_torn_178 ?_
    refine J_if_eq (pc := 180) (tgt := 245) X dX13_torn_180 rfl (fun c36 => ?_) (fun c36 => ?_)
    · have hq := ite_t hq c36
      refine J_sub [0, 1] rfl ?_
      exact hk245 _ _ hq
    · have hq := ite_f hq c36
      refine J_aload_n (pc := 183) X (j := 0) (i := 0) rfl rfl dX13_torn_183 ?_
      refine J_getF (pc := 184) X (b := 179) ly155 fl_13_105 rfl dX13_torn_184 ?_
      refine J_iconst (pc := 187) X (v := 1) (by decide) dX13_torn_187 ?_
      refine J_dup2 (pc := 188) X rfl rfl dX13_torn_188 ?_
      refine J_iaload (pc := 189) X ly179 (by decide) dX13_torn_189 ?_
      refine J_iload (pc := 190) X (j := 2) rfl dX13_torn_190 ?_
      refine J_iload (pc := 192) X (j := 3) rfl dX13_torn_192 ?_
      refine J_iconst (pc := 194) X (v := 1) (by decide) dX13_torn_194 ?_
      obtain ⟨v38, h37, hc, hq⟩ := bnd_e hq
      refine J_callS (pc := 195) (as := [.inl x4, .inl x5, .inl 1]) (st := [.inl (h.1 179 ((1 : Int32).toNatClampNeg)), .inl 1, .inr (.inr 179)]) (st2 := [.inl v38, .inl (h.1 179 ((1 : Int32).toNatClampNeg)), .inl 1, .inr (.inr 179)]) (r1 := (some (.inl v38), h37)) (h2 := h37) (ky := 2) X dX13_torn_195 ca_X13_isAll cz_X13_isAll ml_13_341 (by decide) (m_X13_isAll _ _ _ _ _ hc) rfl rfl (Nat.le_of_ble_eq_true rfl) rfl rfl ?_
      refine J_if_eq (pc := 198) (tgt := 208) X dX13_torn_198 rfl (fun c39 => ?_) (fun c39 => ?_)
      · have hq := ite_t hq c39
        refine J_iconst (pc := 208) X (v := 0) (by decide) dX13_torn_208 ?_
        exact tB_X13_torn_209 X _ _ _ _ _ _ _ _ _ _ hk245 hself hq
      · have hq := ite_f hq c39
        refine J_iconst (pc := 201) X (v := 1) (by decide) dX13_torn_201 ?_
        refine J_iload (pc := 202) X (j := 3) rfl dX13_torn_202 ?_
        refine J_ishl (pc := 204) X dX13_torn_204 ?_
        refine J_goto (pc := 205) X (tgt := 209) dX13_torn_205 rfl ?_
        exact tB_X13_torn_209 X _ _ _ _ _ _ _ _ _ _ hk245 hself hq
theorem tL_X13_torn_167 {κ : Kx} (X : OK κ cX13_torn 6 (some .long) "StruckWordsModel" 4) (x2 : Int32) (x4 : Int32) (k245 : Hp → Option (Int64 × Hp)) (N : Nat) (x5 : Int32) (h : Hp) (q : (Int64 × Hp)) (hk245 : ∀ (h : Hp) (q : (Int64 × Hp)), k245 h = some q → J κ 245 [(0, .inr (.inr 155)), (2, .inl x2)] [] h (some (.inr (.inl q.1)), q.2)) (hq : itr2 (F_X13_torn_167 x2 x4 k245) N x5 h = some q) : J κ 167 [(0, .inr (.inr 155)), (2, .inl x2), (4, .inl x4), (5, .inl x5)] [] h (some (.inr (.inl q.1)), q.2) :=
  itr2_ind (fun self hs x5 h q hq => tF_X13_torn_167 X x2 x4 k245 self x5 h q hk245 hs hq) N x5 h q hq
theorem tB_X13_torn_245 {κ : Kx} (X : OK κ cX13_torn 6 (some .long) "StruckWordsModel" 4) (x2 : Int32) (h : Hp) (q : (Int64 × Hp)) (hq : B_X13_torn_245 x2 h = some q) : J κ 245 [(0, .inr (.inr 155)), (2, .inl x2)] [] h (some (.inr (.inl q.1)), q.2) := by
  delta B_X13_torn_245 at hq
  refine J_aload_n (pc := 245) X (j := 0) (i := 0) rfl rfl dX13_torn_245 ?_
  refine J_iload_n (pc := 246) X (j := 1) (i := 2) rfl rfl dX13_torn_246 ?_
  obtain ⟨h48, hc, hq⟩ := bnv_e hq
  refine J_callV (pc := 247) (as := [.inl x2]) (st := []) (st2 := []) (r1 := (none, h48)) (h2 := h48) (ky := 3) X dX13_torn_247 ca_X13_likely ci_X13_likely cs_X13_likely ml_13_421 (by decide) ly155 rfl rfl (m_X13_likely _ _ _ hc) rfl rfl (Nat.le_of_ble_eq_true rfl) rfl rfl ?_
  refine J_aload_n (pc := 250) X (j := 0) (i := 0) rfl rfl dX13_torn_250 ?_
  refine J_iconst (pc := 251) X (v := 1) (by decide) dX13_torn_251 ?_
  refine J_putZ (pc := 252) X ly155 fp_13_424 (by decide) dX13_torn_252 ?_
  refine J_ltH hq (fun h49 hq => ?_)
  refine J_aload_n (pc := 255) X (j := 0) (i := 0) rfl rfl dX13_torn_255 ?_
  refine J_iload_n (pc := 256) X (j := 1) (i := 2) rfl rfl dX13_torn_256 ?_
  obtain ⟨v51, h50, hc, hq⟩ := bnd_e hq
  refine J_callV (pc := 257) (as := [.inl x2]) (st := []) (st2 := [.inr (.inl v51)]) (r1 := (some (.inr (.inl v51)), h50)) (h2 := h50) (ky := 2) X dX13_torn_257 ca_X13_countTorn ci_X13_countTorn cs_X13_countTorn ml_13_427 (by decide) ly155 rfl rfl (m_X13_countTorn _ _ _ hc) rfl rfl (Nat.le_of_ble_eq_true rfl) rfl rfl ?_
  obtain rfl := Option.some.inj hq
  exact J_lret (pc := 260) X dX13_torn_260
theorem tf_X13_torn {κ : Kx} (X : OK κ cX13_torn 6 (some .long) "StruckWordsModel" 4) (x1 : Int32) (x2 : Int32) (h : Hp) (q : (Int64 × Hp)) (hq : f_X13_torn x1 x2 h = some q) : J κ 0 [(0, .inr (.inr 155)), (1, .inl x1), (2, .inl x2)] [] h (some (.inr (.inl q.1)), q.2) := by
  delta f_X13_torn at hq
  refine J_aload_n (pc := 0) X (j := 0) (i := 0) rfl rfl dX13_torn_0 ?_
  refine J_iconst (pc := 1) X (v := 0) (by decide) dX13_torn_1 ?_
  refine J_putI (pc := 2) X ly155 fp_13_1 dX13_torn_2 ?_
  refine J_ltH hq (fun h1 hq => ?_)
  refine J_aload_n (pc := 5) X (j := 0) (i := 0) rfl rfl dX13_torn_5 ?_
  refine J_sipush (pc := 6) X (v := 940) (by decide) dX13_torn_6 ?_
  obtain ⟨h2, hc, hq⟩ := bnv_e hq
  refine J_callV (pc := 9) (as := [.inl 940]) (st := []) (st2 := []) (r1 := (none, h2)) (h2 := h2) (ky := 1) X dX13_torn_9 ca_X13_taken ci_X13_taken cs_X13_taken ml_13_260 (by decide) ly155 rfl rfl (m_X13_taken _ _ _ hc) rfl rfl (Nat.le_of_ble_eq_true rfl) rfl rfl ?_
  refine J_iload_n (pc := 12) X (j := 1) (i := 1) rfl rfl dX13_torn_12 ?_
  refine J_iconst (pc := 13) X (v := 1) (by decide) dX13_torn_13 ?_
  refine J_aload_n (pc := 14) X (j := 0) (i := 0) rfl rfl dX13_torn_14 ?_
  refine J_getF (pc := 15) X (b := 157) ly155 fl_13_33 rfl dX13_torn_15 ?_
  refine J_iconst (pc := 18) X (v := 3) (by decide) dX13_torn_18 ?_
  refine J_iaload (pc := 19) X ly157 (by decide) dX13_torn_19 ?_
  obtain ⟨v4, h3, hc, hq⟩ := bnd_e hq
  refine J_callS (pc := 20) (as := [.inl x1, .inl 1, .inl (h2.1 157 ((3 : Int32).toNatClampNeg))]) (st := []) (st2 := [.inl v4]) (r1 := (some (.inl v4), h3)) (h2 := h3) (ky := 1) X dX13_torn_20 ca_X13_isIn cz_X13_isIn ml_13_204 (by decide) (m_X13_isIn _ _ _ _ _ hc) rfl rfl (Nat.le_of_ble_eq_true rfl) rfl rfl ?_
  refine J_if_eq (pc := 23) (tgt := 36) X dX13_torn_23 rfl (fun c5 => ?_) (fun c5 => ?_)
  · have hq := ite_t hq c5
    refine J_ldc2 (pc := 36) X cl_13_316 dX13_torn_36 ?_
    obtain rfl := Option.some.inj hq
    exact J_lret (pc := 39) X dX13_torn_39
  · have hq := ite_f hq c5
    refine J_iload_n (pc := 26) X (j := 2) (i := 2) rfl rfl dX13_torn_26 ?_
    refine J_iconst (pc := 27) X (v := 1) (by decide) dX13_torn_27 ?_
    refine J_bipush (pc := 28) X (v := 12) (by decide) dX13_torn_28 ?_
    obtain ⟨v7, h6, hc, hq⟩ := bnd_e hq
    refine J_callS (pc := 30) (as := [.inl x2, .inl 1, .inl 12]) (st := []) (st2 := [.inl v7]) (r1 := (some (.inl v7), h6)) (h2 := h6) (ky := 1) X dX13_torn_30 ca_X13_isIn cz_X13_isIn ml_13_204 (by decide) (m_X13_isIn _ _ _ _ _ hc) rfl rfl (Nat.le_of_ble_eq_true rfl) rfl rfl ?_
    refine J_if_ne (pc := 33) (tgt := 40) X dX13_torn_33 rfl (fun c8 => ?_) (fun c8 => ?_)
    · have hq := ite_f hq c8
      refine J_aload_n (pc := 40) X (j := 0) (i := 0) rfl rfl dX13_torn_40 ?_
      obtain ⟨h9, hc, hq⟩ := bnv_e hq
      refine J_callV (pc := 41) (as := []) (st := []) (st2 := []) (r1 := (none, h9)) (h2 := h9) (ky := 2) X dX13_torn_41 ca_X13_settle ci_X13_settle cs_X13_settle ml_13_328 (by decide) ly155 rfl rfl (m_X13_settle _ _ hc) rfl rfl (Nat.le_of_ble_eq_true rfl) rfl rfl ?_
      refine J_iconst (pc := 44) X (v := 0) (by decide) dX13_torn_44 ?_
      refine J_istore_n (pc := 45) X (L' := [(3, .inl 0), (0, .inr (.inr 155)), (1, .inl x1), (2, .inl x2)]) (i := 3) rfl (by decide) rfl dX13_torn_45 ?_
      refine J_iconst (pc := 46) X (v := 0) (by decide) dX13_torn_46 ?_
      refine J_istore (pc := 47) X (L' := [(4, .inl 0), (3, .inl 0), (0, .inr (.inr 155)), (1, .inl x1), (2, .inl x2)]) (by decide) rfl dX13_torn_47 ?_
      refine J_sub [2, 3, 4, 1, 0] rfl ?_
      refine tL_X13_torn_49 X _ _ _ _ N0 _ _ _ _ ?_ ?_ hq
      · intro h26 q hq
        refine J_ldc2 (pc := 98) X cl_13_316 dX13_torn_98 ?_
        obtain rfl := Option.some.inj hq
        exact J_lret (pc := 101) X dX13_torn_101
      · intro v28 h27 q hq
        refine J_iload_n (pc := 123) X (j := 2) (i := 3) rfl rfl dX13_torn_123 ?_
        refine J_aload_n (pc := 124) X (j := 0) (i := 0) rfl rfl dX13_torn_124 ?_
        refine J_getI (pc := 125) X ly155 fl_13_18 dX13_torn_125 ?_
        refine J_icmp_eq (pc := 128) (tgt := 135) X dX13_torn_128 rfl (fun c29 => ?_) (fun c29 => ?_)
        · have hq := ite_t hq c29
          refine J_aload_n (pc := 135) X (j := 0) (i := 0) rfl rfl dX13_torn_135 ?_
          refine J_iload_n (pc := 136) X (j := 1) (i := 2) rfl rfl dX13_torn_136 ?_
          obtain ⟨v31, h30, hc, hq⟩ := bnd_e hq
          refine J_callV (pc := 137) (as := [.inl x2]) (st := []) (st2 := [.inl v31]) (r1 := (some (.inl v31), h30)) (h2 := h30) (ky := 2) X dX13_torn_137 ca_X13_meantTorn ci_X13_meantTorn cs_X13_meantTorn ml_13_418 (by decide) ly155 rfl rfl (m_X13_meantTorn _ _ _ hc) rfl rfl (Nat.le_of_ble_eq_true rfl) rfl rfl ?_
          refine J_istore (pc := 140) X (L' := [(4, .inl v31), (0, .inr (.inr 155)), (2, .inl x2), (3, .inl v28)]) (by decide) rfl dX13_torn_140 ?_
          refine J_aload_n (pc := 142) X (j := 1) (i := 0) rfl rfl dX13_torn_142 ?_
          refine J_getF (pc := 143) X (b := 179) ly155 fl_13_105 rfl dX13_torn_143 ?_
          refine J_iconst (pc := 146) X (v := 0) (by decide) dX13_torn_146 ?_
          refine J_iload (pc := 147) X (j := 0) rfl dX13_torn_147 ?_
          refine J_iastore (pc := 149) X ly179 (by decide) dX13_torn_149 ?_
          refine J_ltH hq (fun h32 hq => ?_)
          refine J_aload_n (pc := 150) X (j := 1) (i := 0) rfl rfl dX13_torn_150 ?_
          refine J_getF (pc := 151) X (b := 179) ly155 fl_13_105 rfl dX13_torn_151 ?_
          refine J_iconst (pc := 154) X (v := 1) (by decide) dX13_torn_154 ?_
          refine J_iconst (pc := 155) X (v := 0) (by decide) dX13_torn_155 ?_
          refine J_iastore (pc := 156) X ly179 (by decide) dX13_torn_156 ?_
          refine J_ltH hq (fun h33 hq => ?_)
          refine J_aload_n (pc := 157) X (j := 1) (i := 0) rfl rfl dX13_torn_157 ?_
          refine J_getF (pc := 158) X (b := 179) ly155 fl_13_105 rfl dX13_torn_158 ?_
          refine J_iconst (pc := 161) X (v := 2) (by decide) dX13_torn_161 ?_
          refine J_iconst (pc := 162) X (v := 0) (by decide) dX13_torn_162 ?_
          refine J_iastore (pc := 163) X ly179 (by decide) dX13_torn_163 ?_
          refine J_ltH hq (fun h34 hq => ?_)
          refine J_iconst (pc := 164) X (v := 0) (by decide) dX13_torn_164 ?_
          refine J_istore (pc := 165) X (L' := [(5, .inl 0), (4, .inl v31), (0, .inr (.inr 155)), (2, .inl x2), (3, .inl v28)]) (by decide) rfl dX13_torn_165 ?_
          refine J_sub [2, 3, 1, 0] rfl ?_
          refine tL_X13_torn_167 X _ _ _ N0 _ _ _ ?_ hq
          · intro h47 q hq
            exact tB_X13_torn_245 X _ _ _ hq
        · have hq := ite_f hq c29
          refine J_ldc2 (pc := 131) X cl_13_316 dX13_torn_131 ?_
          obtain rfl := Option.some.inj hq
          exact J_lret (pc := 134) X dX13_torn_134
    · have hq := ite_t hq c8
      refine J_ldc2 (pc := 36) X cl_13_316 dX13_torn_36 ?_
      obtain rfl := Option.some.inj hq
      exact J_lret (pc := 39) X dX13_torn_39
theorem m_X13_torn (x1 : Int32) (x2 : Int32) (h : Hp) (q : (Int64 × Hp)) (hq : f_X13_torn x1 x2 h = some q) : ∀ l w, CT l w yX13_torn cX13_torn 6 (some .long) 4 [.inr (.inr 155), .inl x1, .inl x2] h (some (.inr (.inl q.1)), q.2) :=
  CT_of (L0 := [(0, .inr (.inr 155)), (1, .inl x1), (2, .inl x2)]) (by decide) rfl (Nat.le_of_ble_eq_true rfl) (fun κ X => tf_X13_torn X x1 x2 h q  hq)
theorem tf_X13_sure {κ : Kx} (X : OK κ cX13_sure 2 (some .int) "StruckWordsModel" 2) (x1 : Int32) (h : Hp) (q : (Int32 × Hp)) (hq : f_X13_sure x1 h = some q) : J κ 0 [(0, .inr (.inr 155)), (1, .inl x1)] [] h (some (.inl q.1), q.2) := by
  delta f_X13_sure at hq
  refine J_aload_n (pc := 0) X (j := 0) (i := 0) rfl rfl dX13_sure_0 ?_
  refine J_iconst (pc := 1) X (v := 0) (by decide) dX13_sure_1 ?_
  refine J_putI (pc := 2) X ly155 fp_13_1 dX13_sure_2 ?_
  refine J_ltH hq (fun h1 hq => ?_)
  refine J_aload_n (pc := 5) X (j := 0) (i := 0) rfl rfl dX13_sure_5 ?_
  refine J_getI (pc := 6) X ly155 fl_13_424 dX13_sure_6 ?_
  refine J_if_eq (pc := 9) (tgt := 30) X dX13_sure_9 rfl (fun c2 => ?_) (fun c2 => ?_)
  · have hq := ite_t hq c2
    refine J_iconst (pc := 30) X (v := (-1)) (by decide) dX13_sure_30 ?_
    obtain rfl := Option.some.inj hq
    exact J_iret (pc := 31) X dX13_sure_31
  · have hq := ite_f hq c2
    refine J_iload_n (pc := 12) X (j := 1) (i := 1) rfl rfl dX13_sure_12 ?_
    refine J_iconst (pc := 13) X (v := 0) (by decide) dX13_sure_13 ?_
    refine J_iconst (pc := 14) X (v := 2) (by decide) dX13_sure_14 ?_
    obtain ⟨v4, h3, hc, hq⟩ := bnd_e hq
    refine J_callS (pc := 15) (as := [.inl x1, .inl 0, .inl 2]) (st := []) (st2 := [.inl v4]) (r1 := (some (.inl v4), h3)) (h2 := h3) (ky := 1) X dX13_sure_15 ca_X13_isIn cz_X13_isIn ml_13_204 (by decide) (m_X13_isIn _ _ _ _ _ hc) rfl rfl (Nat.le_of_ble_eq_true rfl) rfl rfl ?_
    refine J_if_eq (pc := 18) (tgt := 30) X dX13_sure_18 rfl (fun c5 => ?_) (fun c5 => ?_)
    · have hq := ite_t hq c5
      refine J_iconst (pc := 30) X (v := (-1)) (by decide) dX13_sure_30 ?_
      obtain rfl := Option.some.inj hq
      exact J_iret (pc := 31) X dX13_sure_31
    · have hq := ite_f hq c5
      refine J_aload_n (pc := 21) X (j := 0) (i := 0) rfl rfl dX13_sure_21 ?_
      refine J_getF (pc := 22) X (b := 179) ly155 fl_13_105 rfl dX13_sure_22 ?_
      refine J_iload_n (pc := 25) X (j := 1) (i := 1) rfl rfl dX13_sure_25 ?_
      obtain ⟨g6, hq⟩ := gd hq
      refine J_iaload (pc := 26) X ly179 g6 dX13_sure_26 ?_
      refine J_goto (pc := 27) X (tgt := 31) dX13_sure_27 rfl ?_
      obtain rfl := Option.some.inj hq
      exact J_iret (pc := 31) X dX13_sure_31
theorem m_X13_sure (x1 : Int32) (h : Hp) (q : (Int32 × Hp)) (hq : f_X13_sure x1 h = some q) : ∀ l w, CT l w yX13_sure cX13_sure 2 (some .int) 2 [.inr (.inr 155), .inl x1] h (some (.inl q.1), q.2) :=
  CT_of (L0 := [(0, .inr (.inr 155)), (1, .inl x1)]) (by decide) rfl (Nat.le_of_ble_eq_true rfl) (fun κ X => tf_X13_sure X x1 h q  hq)
theorem tF_X13_likeliest_35 {κ : Kx} (X : OK κ cX13_likeliest 2 (some .long) "StruckWordsModel" 1) (k61 : Hp → Option (Int64 × Hp)) (self : Int32 → Hp → Option (Int64 × Hp)) (x1 : Int32) (h : Hp) (q : (Int64 × Hp)) (hk61 : ∀ (h : Hp) (q : (Int64 × Hp)), k61 h = some q → J κ 61 [(0, .inr (.inr 155))] [] h (some (.inr (.inl q.1)), q.2)) (hself : ∀ (x1 : Int32) (h : Hp) (q : (Int64 × Hp)), self x1 h = some q → J κ 35 [(0, .inr (.inr 155)), (1, .inl x1)] [] h (some (.inr (.inl q.1)), q.2)) (hq : F_X13_likeliest_35 k61 self x1 h = some q) : J κ 35 [(0, .inr (.inr 155)), (1, .inl x1)] [] h (some (.inr (.inl q.1)), q.2) := by
  delta F_X13_likeliest_35 at hq
  refine J_iload_n (pc := 35) X (j := 1) (i := 1) rfl rfl dX13_likeliest_35 ?_
  refine J_aload_n (pc := 36) X (j := 0) (i := 0) rfl rfl dX13_likeliest_36 ?_
  refine J_getI (pc := 37) X ly155 fl_13_409 dX13_likeliest_37 ?_
  refine J_icmp_ge (pc := 40) (tgt := 61) X dX13_likeliest_40 rfl (fun c5 => ?_) (fun c5 => ?_)
  · have hq := ite_t hq c5
    refine J_sub [0] rfl ?_
    exact hk61 _ _ hq
  · have hq := ite_f hq c5
    refine J_aload_n (pc := 43) X (j := 0) (i := 0) rfl rfl dX13_likeliest_43 ?_
    refine J_getF (pc := 44) X (b := 176) ly155 fl_13_96 rfl dX13_likeliest_44 ?_
    refine J_iload_n (pc := 47) X (j := 1) (i := 1) rfl rfl dX13_likeliest_47 ?_
    refine J_aload_n (pc := 48) X (j := 0) (i := 0) rfl rfl dX13_likeliest_48 ?_
    refine J_getF (pc := 49) X (b := 180) ly155 fl_13_108 rfl dX13_likeliest_49 ?_
    refine J_iload_n (pc := 52) X (j := 1) (i := 1) rfl rfl dX13_likeliest_52 ?_
    obtain ⟨g6, hq⟩ := gd hq
    refine J_iaload (pc := 53) X ly180 g6 dX13_likeliest_53 ?_
    obtain ⟨g7, hq⟩ := gd hq
    refine J_iastore (pc := 54) X ly176 g7 dX13_likeliest_54 ?_
    refine J_ltH hq (fun h8 hq => ?_)
    refine J_iinc (pc := 55) X (j := 1) (v := 1) (L' := [(1, .inl (x1 + 1)), (0, .inr (.inr 155))]) rfl (by decide) (by decide) rfl dX13_likeliest_55 ?_
    refine J_goto (pc := 58) X (tgt := 35) dX13_likeliest_58 rfl ?_
    refine J_sub [1, 0] rfl ?_
    exact hself _ _ _ hq
theorem tL_X13_likeliest_35 {κ : Kx} (X : OK κ cX13_likeliest 2 (some .long) "StruckWordsModel" 1) (k61 : Hp → Option (Int64 × Hp)) (N : Nat) (x1 : Int32) (h : Hp) (q : (Int64 × Hp)) (hk61 : ∀ (h : Hp) (q : (Int64 × Hp)), k61 h = some q → J κ 61 [(0, .inr (.inr 155))] [] h (some (.inr (.inl q.1)), q.2)) (hq : itr2 (F_X13_likeliest_35 k61) N x1 h = some q) : J κ 35 [(0, .inr (.inr 155)), (1, .inl x1)] [] h (some (.inr (.inl q.1)), q.2) :=
  itr2_ind (fun self hs x1 h q hq => tF_X13_likeliest_35 X k61 self x1 h q hk61 hs hq) N x1 h q hq
theorem tf_X13_likeliest {κ : Kx} (X : OK κ cX13_likeliest 2 (some .long) "StruckWordsModel" 1) (h : Hp) (q : (Int64 × Hp)) (hq : f_X13_likeliest h = some q) : J κ 0 [(0, .inr (.inr 155))] [] h (some (.inr (.inl q.1)), q.2) := by
  delta f_X13_likeliest at hq
  refine J_aload_n (pc := 0) X (j := 0) (i := 0) rfl rfl dX13_likeliest_0 ?_
  refine J_iconst (pc := 1) X (v := 0) (by decide) dX13_likeliest_1 ?_
  refine J_putI (pc := 2) X ly155 fp_13_1 dX13_likeliest_2 ?_
  refine J_ltH hq (fun h1 hq => ?_)
  refine J_aload_n (pc := 5) X (j := 0) (i := 0) rfl rfl dX13_likeliest_5 ?_
  refine J_getI (pc := 6) X ly155 fl_13_424 dX13_likeliest_6 ?_
  refine J_if_ne (pc := 9) (tgt := 16) X dX13_likeliest_9 rfl (fun c2 => ?_) (fun c2 => ?_)
  · have hq := ite_f hq c2
    refine J_aload_n (pc := 16) X (j := 0) (i := 0) rfl rfl dX13_likeliest_16 ?_
    refine J_getL (pc := 17) X ly155 fl_13_415 dX13_likeliest_17 ?_
    refine J_lconst (pc := 20) X (v := 0) (by decide) dX13_likeliest_20 ?_
    refine J_lcmp (pc := 21) X dX13_likeliest_21 ?_
    refine J_if_le (pc := 22) (tgt := 61) X dX13_likeliest_22 rfl (fun c3 => ?_) (fun c3 => ?_)
    · have hq := ite_t hq c3
      refine J_aload_n (pc := 61) X (j := 0) (i := 0) rfl rfl dX13_likeliest_61 ?_
      refine J_getL (pc := 62) X ly155 fl_13_415 dX13_likeliest_62 ?_
      obtain rfl := Option.some.inj hq
      exact J_lret (pc := 65) X dX13_likeliest_65
    · have hq := ite_f hq c3
      refine J_aload_n (pc := 25) X (j := 0) (i := 0) rfl rfl dX13_likeliest_25 ?_
      refine J_aload_n (pc := 26) X (j := 0) (i := 0) rfl rfl dX13_likeliest_26 ?_
      refine J_getI (pc := 27) X ly155 fl_13_409 dX13_likeliest_27 ?_
      refine J_putI (pc := 30) X ly155 fp_13_377 dX13_likeliest_30 ?_
      refine J_ltH hq (fun h4 hq => ?_)
      refine J_iconst (pc := 33) X (v := 0) (by decide) dX13_likeliest_33 ?_
      refine J_istore_n (pc := 34) X (L' := [(1, .inl 0), (0, .inr (.inr 155))]) (i := 1) rfl (by decide) rfl dX13_likeliest_34 ?_
      refine J_sub [1, 0] rfl ?_
      refine tL_X13_likeliest_35 X _ N0 _ _ _ ?_ hq
      · intro h9 q hq
        refine J_aload_n (pc := 61) X (j := 0) (i := 0) rfl rfl dX13_likeliest_61 ?_
        refine J_getL (pc := 62) X ly155 fl_13_415 dX13_likeliest_62 ?_
        obtain rfl := Option.some.inj hq
        exact J_lret (pc := 65) X dX13_likeliest_65
  · have hq := ite_t hq c2
    refine J_ldc2 (pc := 12) X cl_13_316 dX13_likeliest_12 ?_
    obtain rfl := Option.some.inj hq
    exact J_lret (pc := 15) X dX13_likeliest_15
theorem m_X13_likeliest (h : Hp) (q : (Int64 × Hp)) (hq : f_X13_likeliest  h = some q) : ∀ l w, CT l w yX13_likeliest cX13_likeliest 2 (some .long) 1 [.inr (.inr 155)] h (some (.inr (.inl q.1)), q.2) :=
  CT_of (L0 := [(0, .inr (.inr 155))]) (by decide) rfl (Nat.le_of_ble_eq_true rfl) (fun κ X => tf_X13_likeliest X  h q  hq)
theorem tF_X13_add_38 {κ : Kx} (X : OK κ cX13_add 3 (some .int) "StruckWordsModel" 1) (x1 : Int32) (k68 : Hp → Option (Int32 × Hp)) (self : Int32 → Hp → Option (Int32 × Hp)) (x2 : Int32) (h : Hp) (q : (Int32 × Hp)) (hk68 : ∀ (h : Hp) (q : (Int32 × Hp)), k68 h = some q → J κ 68 [(0, .inr (.inr 155))] [] h (some (.inl q.1), q.2)) (hself : ∀ (x2 : Int32) (h : Hp) (q : (Int32 × Hp)), self x2 h = some q → J κ 38 [(0, .inr (.inr 155)), (1, .inl x1), (2, .inl x2)] [] h (some (.inl q.1), q.2)) (hq : F_X13_add_38 x1 k68 self x2 h = some q) : J κ 38 [(0, .inr (.inr 155)), (1, .inl x1), (2, .inl x2)] [] h (some (.inl q.1), q.2) := by
  delta F_X13_add_38 at hq
  refine J_iload_n (pc := 38) X (j := 2) (i := 2) rfl rfl dX13_add_38 ?_
  refine J_bipush (pc := 39) X (v := 25) (by decide) dX13_add_39 ?_
  refine J_icmp_ge (pc := 41) (tgt := 68) X dX13_add_41 rfl (fun c4 => ?_) (fun c4 => ?_)
  · have hq := ite_t hq c4
    refine J_sub [0] rfl ?_
    exact hk68 _ _ hq
  · have hq := ite_f hq c4
    refine J_aload_n (pc := 44) X (j := 0) (i := 0) rfl rfl dX13_add_44 ?_
    refine J_getF (pc := 45) X (b := 157) ly155 fl_13_33 rfl dX13_add_45 ?_
    refine J_iload_n (pc := 48) X (j := 1) (i := 1) rfl rfl dX13_add_48 ?_
    refine J_iload_n (pc := 49) X (j := 2) (i := 2) rfl rfl dX13_add_49 ?_
    refine J_iadd (pc := 50) X dX13_add_50 ?_
    refine J_aload_n (pc := 51) X (j := 0) (i := 0) rfl rfl dX13_add_51 ?_
    refine J_getF (pc := 52) X (b := 157) ly155 fl_13_33 rfl dX13_add_52 ?_
    refine J_sipush (pc := 55) X (v := 437) (by decide) dX13_add_55 ?_
    refine J_iload_n (pc := 58) X (j := 2) (i := 2) rfl rfl dX13_add_58 ?_
    refine J_iadd (pc := 59) X dX13_add_59 ?_
    obtain ⟨g5, hq⟩ := gd hq
    refine J_iaload (pc := 60) X ly157 g5 dX13_add_60 ?_
    obtain ⟨g6, hq⟩ := gd hq
    refine J_iastore (pc := 61) X ly157 g6 dX13_add_61 ?_
    refine J_ltH hq (fun h7 hq => ?_)
    refine J_iinc (pc := 62) X (j := 2) (v := 1) (L' := [(2, .inl (x2 + 1)), (0, .inr (.inr 155)), (1, .inl x1)]) rfl (by decide) (by decide) rfl dX13_add_62 ?_
    refine J_goto (pc := 65) X (tgt := 38) dX13_add_65 rfl ?_
    refine J_sub [1, 2, 0] rfl ?_
    exact hself _ _ _ hq
theorem tL_X13_add_38 {κ : Kx} (X : OK κ cX13_add 3 (some .int) "StruckWordsModel" 1) (x1 : Int32) (k68 : Hp → Option (Int32 × Hp)) (N : Nat) (x2 : Int32) (h : Hp) (q : (Int32 × Hp)) (hk68 : ∀ (h : Hp) (q : (Int32 × Hp)), k68 h = some q → J κ 68 [(0, .inr (.inr 155))] [] h (some (.inl q.1), q.2)) (hq : itr2 (F_X13_add_38 x1 k68) N x2 h = some q) : J κ 38 [(0, .inr (.inr 155)), (1, .inl x1), (2, .inl x2)] [] h (some (.inl q.1), q.2) :=
  itr2_ind (fun self hs x2 h q hq => tF_X13_add_38 X x1 k68 self x2 h q hk68 hs hq) N x2 h q hq
theorem tf_X13_add {κ : Kx} (X : OK κ cX13_add 3 (some .int) "StruckWordsModel" 1) (h : Hp) (q : (Int32 × Hp)) (hq : f_X13_add h = some q) : J κ 0 [(0, .inr (.inr 155))] [] h (some (.inl q.1), q.2) := by
  delta f_X13_add at hq
  refine J_aload_n (pc := 0) X (j := 0) (i := 0) rfl rfl dX13_add_0 ?_
  refine J_iconst (pc := 1) X (v := 0) (by decide) dX13_add_1 ?_
  refine J_putI (pc := 2) X ly155 fp_13_1 dX13_add_2 ?_
  refine J_ltH hq (fun h1 hq => ?_)
  refine J_aload_n (pc := 5) X (j := 0) (i := 0) rfl rfl dX13_add_5 ?_
  refine J_getF (pc := 6) X (b := 157) ly155 fl_13_33 rfl dX13_add_6 ?_
  refine J_sipush (pc := 9) X (v := 462) (by decide) dX13_add_9 ?_
  refine J_iaload (pc := 12) X ly157 (by decide) dX13_add_12 ?_
  refine J_bipush (pc := 13) X (v := 10) (by decide) dX13_add_13 ?_
  refine J_icmp_ne (pc := 15) (tgt := 20) X dX13_add_15 rfl (fun c2 => ?_) (fun c2 => ?_)
  · have hq := ite_f hq c2
    refine J_sipush (pc := 20) X (v := 463) (by decide) dX13_add_20 ?_
    refine J_bipush (pc := 23) X (v := 25) (by decide) dX13_add_23 ?_
    refine J_aload_n (pc := 25) X (j := 0) (i := 0) rfl rfl dX13_add_25 ?_
    refine J_getF (pc := 26) X (b := 157) ly155 fl_13_33 rfl dX13_add_26 ?_
    refine J_sipush (pc := 29) X (v := 462) (by decide) dX13_add_29 ?_
    refine J_iaload (pc := 32) X ly157 (by decide) dX13_add_32 ?_
    refine J_imul (pc := 33) X dX13_add_33 ?_
    refine J_iadd (pc := 34) X dX13_add_34 ?_
    refine J_ltI hq (fun v3 hq => ?_)
    refine J_istore_n (pc := 35) X (L' := [(1, .inl v3), (0, .inr (.inr 155))]) (i := 1) rfl (by decide) rfl dX13_add_35 ?_
    refine J_iconst (pc := 36) X (v := 0) (by decide) dX13_add_36 ?_
    refine J_istore_n (pc := 37) X (L' := [(2, .inl 0), (1, .inl v3), (0, .inr (.inr 155))]) (i := 2) rfl (by decide) rfl dX13_add_37 ?_
    refine J_sub [2, 1, 0] rfl ?_
    refine tL_X13_add_38 X _ _ N0 _ _ _ ?_ hq
    · intro h8 q hq
      refine J_aload_n (pc := 68) X (j := 0) (i := 0) rfl rfl dX13_add_68 ?_
      refine J_getF (pc := 69) X (b := 157) ly155 fl_13_33 rfl dX13_add_69 ?_
      refine J_sipush (pc := 72) X (v := 462) (by decide) dX13_add_72 ?_
      refine J_dup2 (pc := 75) X rfl rfl dX13_add_75 ?_
      refine J_iaload (pc := 76) X ly157 (by decide) dX13_add_76 ?_
      refine J_iconst (pc := 77) X (v := 1) (by decide) dX13_add_77 ?_
      refine J_iadd (pc := 78) X dX13_add_78 ?_
      refine J_iastore (pc := 79) X ly157 (by decide) dX13_add_79 ?_
      refine J_ltH hq (fun h9 hq => ?_)
      refine J_aload_n (pc := 80) X (j := 0) (i := 0) rfl rfl dX13_add_80 ?_
      refine J_getF (pc := 81) X (b := 157) ly155 fl_13_33 rfl dX13_add_81 ?_
      refine J_sipush (pc := 84) X (v := 462) (by decide) dX13_add_84 ?_
      refine J_iaload (pc := 87) X ly157 (by decide) dX13_add_87 ?_
      refine J_iconst (pc := 88) X (v := 1) (by decide) dX13_add_88 ?_
      refine J_isub (pc := 89) X dX13_add_89 ?_
      obtain rfl := Option.some.inj hq
      exact J_iret (pc := 90) X dX13_add_90
  · have hq := ite_t hq c2
    refine J_iconst (pc := 18) X (v := (-1)) (by decide) dX13_add_18 ?_
    obtain rfl := Option.some.inj hq
    exact J_iret (pc := 19) X dX13_add_19
theorem m_X13_add (h : Hp) (q : (Int32 × Hp)) (hq : f_X13_add  h = some q) : ∀ l w, CT l w yX13_add cX13_add 3 (some .int) 1 [.inr (.inr 155)] h (some (.inl q.1), q.2) :=
  CT_of (L0 := [(0, .inr (.inr 155))]) (by decide) rfl (Nat.le_of_ble_eq_true rfl) (fun κ X => tf_X13_add X  h q  hq)
theorem tF_X13_take_27 {κ : Kx} (X : OK κ cX13_take 3 (some .int) "StruckWordsModel" 2) (x1 : Int32) (k64 : Hp → Option (Int32 × Hp)) (self : Int32 → Hp → Option (Int32 × Hp)) (x2 : Int32) (h : Hp) (q : (Int32 × Hp)) (hk64 : ∀ (h : Hp) (q : (Int32 × Hp)), k64 h = some q → J κ 64 [(0, .inr (.inr 155))] [] h (some (.inl q.1), q.2)) (hself : ∀ (x2 : Int32) (h : Hp) (q : (Int32 × Hp)), self x2 h = some q → J κ 27 [(0, .inr (.inr 155)), (1, .inl x1), (2, .inl x2)] [] h (some (.inl q.1), q.2)) (hq : F_X13_take_27 x1 k64 self x2 h = some q) : J κ 27 [(0, .inr (.inr 155)), (1, .inl x1), (2, .inl x2)] [] h (some (.inl q.1), q.2) := by
  delta F_X13_take_27 at hq
  refine J_iload_n (pc := 27) X (j := 2) (i := 2) rfl rfl dX13_take_27 ?_
  refine J_bipush (pc := 28) X (v := 25) (by decide) dX13_take_28 ?_
  refine J_icmp_ge (pc := 30) (tgt := 64) X dX13_take_30 rfl (fun c5 => ?_) (fun c5 => ?_)
  · have hq := ite_t hq c5
    refine J_sub [0] rfl ?_
    exact hk64 _ _ hq
  · have hq := ite_f hq c5
    refine J_aload_n (pc := 33) X (j := 0) (i := 0) rfl rfl dX13_take_33 ?_
    refine J_getF (pc := 34) X (b := 157) ly155 fl_13_33 rfl dX13_take_34 ?_
    refine J_sipush (pc := 37) X (v := 437) (by decide) dX13_take_37 ?_
    refine J_iload_n (pc := 40) X (j := 2) (i := 2) rfl rfl dX13_take_40 ?_
    refine J_iadd (pc := 41) X dX13_take_41 ?_
    refine J_aload_n (pc := 42) X (j := 0) (i := 0) rfl rfl dX13_take_42 ?_
    refine J_getF (pc := 43) X (b := 157) ly155 fl_13_33 rfl dX13_take_43 ?_
    refine J_sipush (pc := 46) X (v := 463) (by decide) dX13_take_46 ?_
    refine J_bipush (pc := 49) X (v := 25) (by decide) dX13_take_49 ?_
    refine J_iload_n (pc := 51) X (j := 1) (i := 1) rfl rfl dX13_take_51 ?_
    refine J_imul (pc := 52) X dX13_take_52 ?_
    refine J_iadd (pc := 53) X dX13_take_53 ?_
    refine J_iload_n (pc := 54) X (j := 2) (i := 2) rfl rfl dX13_take_54 ?_
    refine J_iadd (pc := 55) X dX13_take_55 ?_
    obtain ⟨g6, hq⟩ := gd hq
    refine J_iaload (pc := 56) X ly157 g6 dX13_take_56 ?_
    obtain ⟨g7, hq⟩ := gd hq
    refine J_iastore (pc := 57) X ly157 g7 dX13_take_57 ?_
    refine J_ltH hq (fun h8 hq => ?_)
    refine J_iinc (pc := 58) X (j := 2) (v := 1) (L' := [(2, .inl (x2 + 1)), (0, .inr (.inr 155)), (1, .inl x1)]) rfl (by decide) (by decide) rfl dX13_take_58 ?_
    refine J_goto (pc := 61) X (tgt := 27) dX13_take_61 rfl ?_
    refine J_sub [1, 2, 0] rfl ?_
    exact hself _ _ _ hq
theorem tL_X13_take_27 {κ : Kx} (X : OK κ cX13_take 3 (some .int) "StruckWordsModel" 2) (x1 : Int32) (k64 : Hp → Option (Int32 × Hp)) (N : Nat) (x2 : Int32) (h : Hp) (q : (Int32 × Hp)) (hk64 : ∀ (h : Hp) (q : (Int32 × Hp)), k64 h = some q → J κ 64 [(0, .inr (.inr 155))] [] h (some (.inl q.1), q.2)) (hq : itr2 (F_X13_take_27 x1 k64) N x2 h = some q) : J κ 27 [(0, .inr (.inr 155)), (1, .inl x1), (2, .inl x2)] [] h (some (.inl q.1), q.2) :=
  itr2_ind (fun self hs x2 h q hq => tF_X13_take_27 X x1 k64 self x2 h q hk64 hs hq) N x2 h q hq
theorem tf_X13_take {κ : Kx} (X : OK κ cX13_take 3 (some .int) "StruckWordsModel" 2) (x1 : Int32) (h : Hp) (q : (Int32 × Hp)) (hq : f_X13_take x1 h = some q) : J κ 0 [(0, .inr (.inr 155)), (1, .inl x1)] [] h (some (.inl q.1), q.2) := by
  delta f_X13_take at hq
  refine J_aload_n (pc := 0) X (j := 0) (i := 0) rfl rfl dX13_take_0 ?_
  refine J_iconst (pc := 1) X (v := 0) (by decide) dX13_take_1 ?_
  refine J_putI (pc := 2) X ly155 fp_13_1 dX13_take_2 ?_
  refine J_ltH hq (fun h1 hq => ?_)
  refine J_iload_n (pc := 5) X (j := 1) (i := 1) rfl rfl dX13_take_5 ?_
  refine J_iconst (pc := 6) X (v := 0) (by decide) dX13_take_6 ?_
  refine J_aload_n (pc := 7) X (j := 0) (i := 0) rfl rfl dX13_take_7 ?_
  refine J_getF (pc := 8) X (b := 157) ly155 fl_13_33 rfl dX13_take_8 ?_
  refine J_sipush (pc := 11) X (v := 462) (by decide) dX13_take_11 ?_
  refine J_iaload (pc := 14) X ly157 (by decide) dX13_take_14 ?_
  refine J_iconst (pc := 15) X (v := 1) (by decide) dX13_take_15 ?_
  refine J_isub (pc := 16) X dX13_take_16 ?_
  obtain ⟨v3, h2, hc, hq⟩ := bnd_e hq
  refine J_callS (pc := 17) (as := [.inl x1, .inl 0, .inl ((h1.1 157 ((462 : Int32).toNatClampNeg)) - 1)]) (st := []) (st2 := [.inl v3]) (r1 := (some (.inl v3), h2)) (h2 := h2) (ky := 1) X dX13_take_17 ca_X13_isIn cz_X13_isIn ml_13_204 (by decide) (m_X13_isIn _ _ _ _ _ hc) rfl rfl (Nat.le_of_ble_eq_true rfl) rfl rfl ?_
  refine J_if_ne (pc := 20) (tgt := 25) X dX13_take_20 rfl (fun c4 => ?_) (fun c4 => ?_)
  · have hq := ite_f hq c4
    refine J_iconst (pc := 25) X (v := 0) (by decide) dX13_take_25 ?_
    refine J_istore_n (pc := 26) X (L' := [(2, .inl 0), (0, .inr (.inr 155)), (1, .inl x1)]) (i := 2) rfl (by decide) rfl dX13_take_26 ?_
    refine J_sub [1, 2, 0] rfl ?_
    refine tL_X13_take_27 X _ _ N0 _ _ _ ?_ hq
    · intro h9 q hq
      refine J_aload_n (pc := 64) X (j := 0) (i := 0) rfl rfl dX13_take_64 ?_
      refine J_getF (pc := 65) X (b := 157) ly155 fl_13_33 rfl dX13_take_65 ?_
      refine J_sipush (pc := 68) X (v := 437) (by decide) dX13_take_68 ?_
      refine J_iaload (pc := 71) X ly157 (by decide) dX13_take_71 ?_
      obtain rfl := Option.some.inj hq
      exact J_iret (pc := 72) X dX13_take_72
  · have hq := ite_t hq c4
    refine J_iconst (pc := 23) X (v := (-1)) (by decide) dX13_take_23 ?_
    obtain rfl := Option.some.inj hq
    exact J_iret (pc := 24) X dX13_take_24
theorem m_X13_take (x1 : Int32) (h : Hp) (q : (Int32 × Hp)) (hq : f_X13_take x1 h = some q) : ∀ l w, CT l w yX13_take cX13_take 3 (some .int) 2 [.inr (.inr 155), .inl x1] h (some (.inl q.1), q.2) :=
  CT_of (L0 := [(0, .inr (.inr 155)), (1, .inl x1)]) (by decide) rfl (Nat.le_of_ble_eq_true rfl) (fun κ X => tf_X13_take X x1 h q  hq)
