theorem tB_X2_seekWithIdle_148 {κ : Kx} {k0 : Nat} (X : OK κ cX2_seekWithIdle 7 (some .boolean) "StruckWords$Finder" (k0 + 1)) (rec : Int32 → Int32 → Hp → Option (Int32 × Hp)) (x1 : Int32) (x2 : Int32) (x3 : Int32) (x4 : Int32) (k154 : Hp → Option (Int32 × Hp)) (k162 : Hp → Option (Int32 × Hp)) (self : Int32 → Hp → Option (Int32 × Hp)) (x5 : Int32) (t0 : Int32) (t1 : Int32) (h : Hp) (q : (Int32 × Hp)) (hk0 : 5 ≤ k0) (hrec : ∀ (x1 : Int32) (x2 : Int32) (h : Hp) (q : (Int32 × Hp)) , rec x1 x2 h = some q → ∀ l w, CT l w yX2_seekWithIdle cX2_seekWithIdle 7 (some .boolean) k0 [.inr (.inr 122), .inl x1, .inl x2] h (some (.inl q.1), q.2)) (hk154 : ∀ (h : Hp) (q : (Int32 × Hp)), k154 h = some q → J κ 154 [] [] h (some (.inl q.1), q.2)) (hk162 : ∀ (h : Hp) (q : (Int32 × Hp)), k162 h = some q → J κ 162 [] [] h (some (.inl q.1), q.2)) (hself : ∀ (x5 : Int32) (h : Hp) (q : (Int32 × Hp)), self x5 h = some q → J κ 68 [(0, .inr (.inr 122)), (1, .inl x1), (2, .inl x2), (3, .inl x3), (4, .inl x4), (5, .inl x5)] [] h (some (.inl q.1), q.2)) (hq : B_X2_seekWithIdle_148 rec x1 x2 x3 x4 k154 k162 self x5 t0 t1 h = some q) : J κ 148 [(0, .inr (.inr 122)), (1, .inl x1), (2, .inl x2), (3, .inl x3), (4, .inl x4), (5, .inl x5)] [.inl t0, .inl t1, .inr (.inr 122)] h (some (.inl q.1), q.2) := by
  delta B_X2_seekWithIdle_148 at hq
  obtain ⟨v19, h18, hc, hq⟩ := bnd_e hq
  refine J_callV (pc := 148) (as := [.inl t1, .inl t0]) (st := []) (st2 := [.inl v19]) (r1 := (some (.inl v19), h18)) (h2 := h18) (ky := k0) X dX2_seekWithIdle_148 ca_X2_seekWithIdle ci_X2_seekWithIdle cs_X2_seekWithIdle ml_2_116 (by omega) ly122 rfl rfl (hrec _ _ _ _ hc) rfl rfl (Nat.le_of_ble_eq_true rfl) rfl rfl ?_
  refine J_if_eq (pc := 151) (tgt := 156) X dX2_seekWithIdle_151 rfl (fun c20 => ?_) (fun c20 => ?_)
  · have hq := ite_t hq c20
    refine J_iinc (pc := 156) X (j := 5) (v := 1) (L' := [(5, .inl (x5 + 1)), (0, .inr (.inr 122)), (1, .inl x1), (2, .inl x2), (3, .inl x3), (4, .inl x4)]) rfl (by decide) (by decide) rfl dX2_seekWithIdle_156 ?_
    refine J_goto (pc := 159) X (tgt := 68) dX2_seekWithIdle_159 rfl ?_
    refine J_sub [1, 2, 3, 4, 5, 0] rfl ?_
    exact hself _ _ _ hq
  · have hq := ite_f hq c20
    refine J_sub [] rfl ?_
    exact hk154 _ _ hq
theorem tB_X2_seekWithIdle_111 {κ : Kx} {k0 : Nat} (X : OK κ cX2_seekWithIdle 7 (some .boolean) "StruckWords$Finder" (k0 + 1)) (rec : Int32 → Int32 → Hp → Option (Int32 × Hp)) (x1 : Int32) (x2 : Int32) (x3 : Int32) (x4 : Int32) (k154 : Hp → Option (Int32 × Hp)) (k162 : Hp → Option (Int32 × Hp)) (self : Int32 → Hp → Option (Int32 × Hp)) (x5 : Int32) (t0 : Int32) (h : Hp) (q : (Int32 × Hp)) (hk0 : 5 ≤ k0) (hrec : ∀ (x1 : Int32) (x2 : Int32) (h : Hp) (q : (Int32 × Hp)) , rec x1 x2 h = some q → ∀ l w, CT l w yX2_seekWithIdle cX2_seekWithIdle 7 (some .boolean) k0 [.inr (.inr 122), .inl x1, .inl x2] h (some (.inl q.1), q.2)) (hk154 : ∀ (h : Hp) (q : (Int32 × Hp)), k154 h = some q → J κ 154 [] [] h (some (.inl q.1), q.2)) (hk162 : ∀ (h : Hp) (q : (Int32 × Hp)), k162 h = some q → J κ 162 [] [] h (some (.inl q.1), q.2)) (hself : ∀ (x5 : Int32) (h : Hp) (q : (Int32 × Hp)), self x5 h = some q → J κ 68 [(0, .inr (.inr 122)), (1, .inl x1), (2, .inl x2), (3, .inl x3), (4, .inl x4), (5, .inl x5)] [] h (some (.inl q.1), q.2)) (hq : B_X2_seekWithIdle_111 rec x1 x2 x3 x4 k154 k162 self x5 t0 h = some q) : J κ 111 [(0, .inr (.inr 122)), (1, .inl x1), (2, .inl x2), (3, .inl x3), (4, .inl x4), (5, .inl x5)] [.inl t0] h (some (.inl q.1), q.2) := by
  delta B_X2_seekWithIdle_111 at hq
  refine J_istore (pc := 111) X (L' := [(6, .inl t0), (0, .inr (.inr 122)), (1, .inl x1), (2, .inl x2), (3, .inl x3), (4, .inl x4), (5, .inl x5)]) (by decide) rfl dX2_seekWithIdle_111 ?_
  refine J_iload (pc := 113) X (j := 0) rfl dX2_seekWithIdle_113 ?_
  refine J_if_eq (pc := 115) (tgt := 156) X dX2_seekWithIdle_115 rfl (fun c13 => ?_) (fun c13 => ?_)
  · have hq := ite_t hq c13
    refine J_iinc (pc := 156) X (j := 6) (v := 1) (L' := [(5, .inl (x5 + 1)), (6, .inl t0), (0, .inr (.inr 122)), (1, .inl x1), (2, .inl x2), (3, .inl x3), (4, .inl x4)]) rfl (by decide) (by decide) rfl dX2_seekWithIdle_156 ?_
    refine J_goto (pc := 159) X (tgt := 68) dX2_seekWithIdle_159 rfl ?_
    refine J_sub [2, 3, 4, 5, 6, 0] rfl ?_
    exact hself _ _ _ hq
  · have hq := ite_f hq c13
    refine J_aload_n (pc := 118) X (j := 1) (i := 0) rfl rfl dX2_seekWithIdle_118 ?_
    refine J_getF (pc := 119) X (b := 123) ly122 fl_2_12 rfl dX2_seekWithIdle_119 ?_
    refine J_iload_n (pc := 122) X (j := 2) (i := 1) rfl rfl dX2_seekWithIdle_122 ?_
    refine J_iload (pc := 123) X (j := 6) rfl dX2_seekWithIdle_123 ?_
    obtain ⟨v15, h14, hc, hq⟩ := bnd_e hq
    refine J_callV (pc := 125) (as := [.inl x1, .inl x5]) (st := []) (st2 := [.inl v15]) (r1 := (some (.inl v15), h14)) (h2 := h14) (ky := 4) X dX2_seekWithIdle_125 ca_X11_put ci_X11_put cs_X11_put ml_2_82 (by omega) ly123 rfl rfl (m_X11_put _ _ _ _ hc) rfl rfl (Nat.le_of_ble_eq_true rfl) rfl rfl ?_
    refine J_if_eq (pc := 128) (tgt := 156) X dX2_seekWithIdle_128 rfl (fun c16 => ?_) (fun c16 => ?_)
    · have hq := ite_t hq c16
      refine J_iinc (pc := 156) X (j := 6) (v := 1) (L' := [(5, .inl (x5 + 1)), (6, .inl t0), (0, .inr (.inr 122)), (1, .inl x1), (2, .inl x2), (3, .inl x3), (4, .inl x4)]) rfl (by decide) (by decide) rfl dX2_seekWithIdle_156 ?_
      refine J_goto (pc := 159) X (tgt := 68) dX2_seekWithIdle_159 rfl ?_
      refine J_sub [2, 3, 4, 5, 6, 0] rfl ?_
      exact hself _ _ _ hq
    · have hq := ite_f hq c16
      refine J_aload_n (pc := 131) X (j := 1) (i := 0) rfl rfl dX2_seekWithIdle_131 ?_
      refine J_iload_n (pc := 132) X (j := 2) (i := 1) rfl rfl dX2_seekWithIdle_132 ?_
      refine J_iconst (pc := 133) X (v := 1) (by decide) dX2_seekWithIdle_133 ?_
      refine J_iadd (pc := 134) X dX2_seekWithIdle_134 ?_
      refine J_iload (pc := 135) X (j := 6) rfl dX2_seekWithIdle_135 ?_
      refine J_iload_n (pc := 137) X (j := 4) (i := 3) rfl rfl dX2_seekWithIdle_137 ?_
      refine J_icmp_ne (pc := 138) (tgt := 147) X dX2_seekWithIdle_138 rfl (fun c17 => ?_) (fun c17 => ?_)
      · have hq := ite_f hq c17
        refine J_iload_n (pc := 147) X (j := 3) (i := 2) rfl rfl dX2_seekWithIdle_147 ?_
        refine J_sub [1, 2, 3, 4, 5, 6] rfl ?_
        exact tB_X2_seekWithIdle_148 X _ _ _ _ _ _ _ _ _ _ _ _ _ hk0 hrec hk154 hk162 hself hq
      · have hq := ite_t hq c17
        refine J_iload_n (pc := 141) X (j := 3) (i := 2) rfl rfl dX2_seekWithIdle_141 ?_
        refine J_iconst (pc := 142) X (v := 1) (by decide) dX2_seekWithIdle_142 ?_
        refine J_iadd (pc := 143) X dX2_seekWithIdle_143 ?_
        refine J_goto (pc := 144) X (tgt := 148) dX2_seekWithIdle_144 rfl ?_
        refine J_sub [1, 2, 3, 4, 5, 6] rfl ?_
        exact tB_X2_seekWithIdle_148 X _ _ _ _ _ _ _ _ _ _ _ _ _ hk0 hrec hk154 hk162 hself hq
theorem tF_X2_seekWithIdle_68 {κ : Kx} {k0 : Nat} (X : OK κ cX2_seekWithIdle 7 (some .boolean) "StruckWords$Finder" (k0 + 1)) (rec : Int32 → Int32 → Hp → Option (Int32 × Hp)) (x1 : Int32) (x2 : Int32) (x3 : Int32) (x4 : Int32) (k154 : Hp → Option (Int32 × Hp)) (k162 : Hp → Option (Int32 × Hp)) (self : Int32 → Hp → Option (Int32 × Hp)) (x5 : Int32) (h : Hp) (q : (Int32 × Hp)) (hk0 : 5 ≤ k0) (hrec : ∀ (x1 : Int32) (x2 : Int32) (h : Hp) (q : (Int32 × Hp)) , rec x1 x2 h = some q → ∀ l w, CT l w yX2_seekWithIdle cX2_seekWithIdle 7 (some .boolean) k0 [.inr (.inr 122), .inl x1, .inl x2] h (some (.inl q.1), q.2)) (hk154 : ∀ (h : Hp) (q : (Int32 × Hp)), k154 h = some q → J κ 154 [] [] h (some (.inl q.1), q.2)) (hk162 : ∀ (h : Hp) (q : (Int32 × Hp)), k162 h = some q → J κ 162 [] [] h (some (.inl q.1), q.2)) (hself : ∀ (x5 : Int32) (h : Hp) (q : (Int32 × Hp)), self x5 h = some q → J κ 68 [(0, .inr (.inr 122)), (1, .inl x1), (2, .inl x2), (3, .inl x3), (4, .inl x4), (5, .inl x5)] [] h (some (.inl q.1), q.2)) (hq : F_X2_seekWithIdle_68 rec x1 x2 x3 x4 k154 k162 self x5 h = some q) : J κ 68 [(0, .inr (.inr 122)), (1, .inl x1), (2, .inl x2), (3, .inl x3), (4, .inl x4), (5, .inl x5)] [] h (some (.inl q.1), q.2) := by
  delta F_X2_seekWithIdle_68 at hq
  refine J_iload (pc := 68) X (j := 5) rfl dX2_seekWithIdle_68 ?_
  refine J_aload_n (pc := 70) X (j := 0) (i := 0) rfl rfl dX2_seekWithIdle_70 ?_
  refine J_getR (pc := 71) X ly122 fl_2_59 dX2_seekWithIdle_71 ?_
  refine J_ltR hq (fun r9 hq => ?_)
  obtain ⟨g10, hq⟩ := gd hq
  refine J_getI (pc := 74) X (isO_lay g10) fl_2_77 dX2_seekWithIdle_74 ?_
  refine J_icmp_ge (pc := 77) (tgt := 162) X dX2_seekWithIdle_77 rfl (fun c11 => ?_) (fun c11 => ?_)
  · have hq := ite_t hq c11
    refine J_sub [] rfl ?_
    exact hk162 _ _ hq
  · have hq := ite_f hq c11
    refine J_iload (pc := 80) X (j := 5) rfl dX2_seekWithIdle_80 ?_
    refine J_iload_n (pc := 82) X (j := 3) (i := 3) rfl rfl dX2_seekWithIdle_82 ?_
    refine J_icmp_eq (pc := 83) (tgt := 106) X dX2_seekWithIdle_83 rfl (fun c12 => ?_) (fun c12 => ?_)
    · have hq := ite_t hq c12
      refine J_iconst (pc := 106) X (v := 1) (by decide) dX2_seekWithIdle_106 ?_
      refine J_goto (pc := 107) X (tgt := 111) dX2_seekWithIdle_107 rfl ?_
      exact tB_X2_seekWithIdle_111 X _ _ _ _ _ _ _ _ _ _ _ _ hk0 hrec hk154 hk162 hself hq
    · have hq := ite_f hq c12
      refine J_iload (pc := 86) X (j := 4) rfl dX2_seekWithIdle_86 ?_
      refine J_if_eq (pc := 88) (tgt := 110) X dX2_seekWithIdle_88 rfl (fun c21 => ?_) (fun c21 => ?_)
      · have hq := ite_t hq c21
        refine J_iconst (pc := 110) X (v := 0) (by decide) dX2_seekWithIdle_110 ?_
        exact tB_X2_seekWithIdle_111 X _ _ _ _ _ _ _ _ _ _ _ _ hk0 hrec hk154 hk162 hself hq
      · have hq := ite_f hq c21
        refine J_aload_n (pc := 91) X (j := 0) (i := 0) rfl rfl dX2_seekWithIdle_91 ?_
        refine J_getR (pc := 92) X ly122 fl_2_59 dX2_seekWithIdle_92 ?_
        refine J_ltR hq (fun r22 hq => ?_)
        obtain ⟨g23, hq⟩ := gd hq
        refine J_getI (pc := 95) X (isO_lay g23) fl_2_122 dX2_seekWithIdle_95 ?_
        refine J_iload (pc := 98) X (j := 5) rfl dX2_seekWithIdle_98 ?_
        refine J_ishr (pc := 100) X dX2_seekWithIdle_100 ?_
        refine J_iconst (pc := 101) X (v := 1) (by decide) dX2_seekWithIdle_101 ?_
        refine J_iand (pc := 102) X dX2_seekWithIdle_102 ?_
        refine J_if_eq (pc := 103) (tgt := 110) X dX2_seekWithIdle_103 rfl (fun c24 => ?_) (fun c24 => ?_)
        · have hq := ite_t hq c24
          refine J_iconst (pc := 110) X (v := 0) (by decide) dX2_seekWithIdle_110 ?_
          exact tB_X2_seekWithIdle_111 X _ _ _ _ _ _ _ _ _ _ _ _ hk0 hrec hk154 hk162 hself hq
        · have hq := ite_f hq c24
          refine J_iconst (pc := 106) X (v := 1) (by decide) dX2_seekWithIdle_106 ?_
          refine J_goto (pc := 107) X (tgt := 111) dX2_seekWithIdle_107 rfl ?_
          exact tB_X2_seekWithIdle_111 X _ _ _ _ _ _ _ _ _ _ _ _ hk0 hrec hk154 hk162 hself hq
theorem tL_X2_seekWithIdle_68 {κ : Kx} {k0 : Nat} (X : OK κ cX2_seekWithIdle 7 (some .boolean) "StruckWords$Finder" (k0 + 1)) (rec : Int32 → Int32 → Hp → Option (Int32 × Hp)) (x1 : Int32) (x2 : Int32) (x3 : Int32) (x4 : Int32) (k154 : Hp → Option (Int32 × Hp)) (k162 : Hp → Option (Int32 × Hp)) (N : Nat) (x5 : Int32) (h : Hp) (q : (Int32 × Hp)) (hk0 : 5 ≤ k0) (hrec : ∀ (x1 : Int32) (x2 : Int32) (h : Hp) (q : (Int32 × Hp)) , rec x1 x2 h = some q → ∀ l w, CT l w yX2_seekWithIdle cX2_seekWithIdle 7 (some .boolean) k0 [.inr (.inr 122), .inl x1, .inl x2] h (some (.inl q.1), q.2)) (hk154 : ∀ (h : Hp) (q : (Int32 × Hp)), k154 h = some q → J κ 154 [] [] h (some (.inl q.1), q.2)) (hk162 : ∀ (h : Hp) (q : (Int32 × Hp)), k162 h = some q → J κ 162 [] [] h (some (.inl q.1), q.2)) (hq : itr2 (F_X2_seekWithIdle_68 rec x1 x2 x3 x4 k154 k162) N x5 h = some q) : J κ 68 [(0, .inr (.inr 122)), (1, .inl x1), (2, .inl x2), (3, .inl x3), (4, .inl x4), (5, .inl x5)] [] h (some (.inl q.1), q.2) :=
  itr2_ind (fun self hs x5 h q hq => tF_X2_seekWithIdle_68 X rec x1 x2 x3 x4 k154 k162 self x5 h q hk0 hrec hk154 hk162 hs hq) N x5 h q hq
theorem tE_X2_seekWithIdle {κ : Kx} {k0 : Nat} (X : OK κ cX2_seekWithIdle 7 (some .boolean) "StruckWords$Finder" (k0 + 1)) (rec : Int32 → Int32 → Hp → Option (Int32 × Hp)) (x1 : Int32) (x2 : Int32) (h : Hp) (q : (Int32 × Hp)) (hk0 : 5 ≤ k0) (hrec : ∀ (x1 : Int32) (x2 : Int32) (h : Hp) (q : (Int32 × Hp)) , rec x1 x2 h = some q → ∀ l w, CT l w yX2_seekWithIdle cX2_seekWithIdle 7 (some .boolean) k0 [.inr (.inr 122), .inl x1, .inl x2] h (some (.inl q.1), q.2)) (hq : E_X2_seekWithIdle rec x1 x2 h = some q) : J κ 0 [(0, .inr (.inr 122)), (1, .inl x1), (2, .inl x2)] [] h (some (.inl q.1), q.2) := by
  delta E_X2_seekWithIdle at hq
  refine J_iload_n (pc := 0) X (j := 1) (i := 1) rfl rfl dX2_seekWithIdle_0 ?_
  refine J_aload_n (pc := 1) X (j := 0) (i := 0) rfl rfl dX2_seekWithIdle_1 ?_
  refine J_getF (pc := 2) X (b := 123) ly122 fl_2_12 rfl dX2_seekWithIdle_2 ?_
  refine J_getI (pc := 5) X ly123 fl_2_67 dX2_seekWithIdle_5 ?_
  refine J_icmp_lt (pc := 8) (tgt := 28) X dX2_seekWithIdle_8 rfl (fun c1 => ?_) (fun c1 => ?_)
  · have hq := ite_t hq c1
    refine J_aload_n (pc := 28) X (j := 0) (i := 0) rfl rfl dX2_seekWithIdle_28 ?_
    refine J_getR (pc := 29) X ly122 fl_2_113 dX2_seekWithIdle_29 ?_
    refine J_ltR hq (fun r2 hq => ?_)
    obtain ⟨g3, hq⟩ := gd hq
    refine J_iload_n (pc := 32) X (j := 2) (i := 2) rfl rfl dX2_seekWithIdle_32 ?_
    obtain ⟨v5, h4, hc, hq⟩ := bnd_e hq
    refine J_callV (pc := 33) (as := [.inl x2]) (st := []) (st2 := [.inl v5]) (r1 := (some (.inl v5), h4)) (h2 := h4) (ky := 1) X dX2_seekWithIdle_33 ca_X7_atOrNone ci_X7_atOrNone cs_X7_atOrNone ml_2_119 (by omega) (isO_lay g3) rfl rfl (m_X7_atOrNone _ _ _ _ (isO_lay g3) hc) rfl rfl (Nat.le_of_ble_eq_true rfl) rfl rfl ?_
    refine J_istore_n (pc := 36) X (L' := [(3, .inl v5), (0, .inr (.inr 122)), (1, .inl x1), (2, .inl x2)]) (i := 3) rfl (by decide) rfl dX2_seekWithIdle_36 ?_
    refine J_aload_n (pc := 37) X (j := 1) (i := 0) rfl rfl dX2_seekWithIdle_37 ?_
    refine J_getF (pc := 38) X (b := 123) ly122 fl_2_12 rfl dX2_seekWithIdle_38 ?_
    refine J_getI (pc := 41) X ly123 fl_2_67 dX2_seekWithIdle_41 ?_
    refine J_iload_n (pc := 44) X (j := 2) (i := 1) rfl rfl dX2_seekWithIdle_44 ?_
    refine J_isub (pc := 45) X dX2_seekWithIdle_45 ?_
    refine J_aload_n (pc := 46) X (j := 1) (i := 0) rfl rfl dX2_seekWithIdle_46 ?_
    refine J_getR (pc := 47) X ly122 fl_2_113 dX2_seekWithIdle_47 ?_
    refine J_ltR hq (fun r6 hq => ?_)
    obtain ⟨g7, hq⟩ := gd hq
    refine J_getI (pc := 50) X (isO_lay g7) fl_2_74 dX2_seekWithIdle_50 ?_
    refine J_iload_n (pc := 53) X (j := 3) (i := 2) rfl rfl dX2_seekWithIdle_53 ?_
    refine J_isub (pc := 54) X dX2_seekWithIdle_54 ?_
    refine J_icmp_le (pc := 55) (tgt := 62) X dX2_seekWithIdle_55 rfl (fun c8 => ?_) (fun c8 => ?_)
    · have hq := ite_t hq c8
      refine J_iconst (pc := 62) X (v := 0) (by decide) dX2_seekWithIdle_62 ?_
      refine J_istore (pc := 63) X (L' := [(4, .inl 0), (3, .inl v5), (0, .inr (.inr 122)), (1, .inl x1), (2, .inl x2)]) (by decide) rfl dX2_seekWithIdle_63 ?_
      refine J_iconst (pc := 65) X (v := 0) (by decide) dX2_seekWithIdle_65 ?_
      refine J_istore (pc := 66) X (L' := [(5, .inl 0), (4, .inl 0), (3, .inl v5), (0, .inr (.inr 122)), (1, .inl x1), (2, .inl x2)]) (by decide) rfl dX2_seekWithIdle_66 ?_
      refine J_sub [3, 4, 5, 2, 1, 0] rfl ?_
      refine tL_X2_seekWithIdle_68 X _ _ _ _ _ _ _ N0 _ _ _ hk0 hrec ?_ ?_ hq
      · intro h25 q hq
        refine J_iconst (pc := 154) X (v := 1) (by decide) dX2_seekWithIdle_154 ?_
        obtain rfl := Option.some.inj hq
        exact J_zret (pc := 155) X (by decide) dX2_seekWithIdle_155
      · intro h26 q hq
        refine J_iconst (pc := 162) X (v := 0) (by decide) dX2_seekWithIdle_162 ?_
        obtain rfl := Option.some.inj hq
        exact J_zret (pc := 163) X (by decide) dX2_seekWithIdle_163
    · have hq := ite_f hq c8
      refine J_iconst (pc := 58) X (v := 1) (by decide) dX2_seekWithIdle_58 ?_
      refine J_goto (pc := 59) X (tgt := 63) dX2_seekWithIdle_59 rfl ?_
      refine J_istore (pc := 63) X (L' := [(4, .inl 1), (3, .inl v5), (0, .inr (.inr 122)), (1, .inl x1), (2, .inl x2)]) (by decide) rfl dX2_seekWithIdle_63 ?_
      refine J_iconst (pc := 65) X (v := 0) (by decide) dX2_seekWithIdle_65 ?_
      refine J_istore (pc := 66) X (L' := [(5, .inl 0), (4, .inl 1), (3, .inl v5), (0, .inr (.inr 122)), (1, .inl x1), (2, .inl x2)]) (by decide) rfl dX2_seekWithIdle_66 ?_
      refine J_sub [3, 4, 5, 2, 1, 0] rfl ?_
      refine tL_X2_seekWithIdle_68 X _ _ _ _ _ _ _ N0 _ _ _ hk0 hrec ?_ ?_ hq
      · intro h27 q hq
        refine J_iconst (pc := 154) X (v := 1) (by decide) dX2_seekWithIdle_154 ?_
        obtain rfl := Option.some.inj hq
        exact J_zret (pc := 155) X (by decide) dX2_seekWithIdle_155
      · intro h28 q hq
        refine J_iconst (pc := 162) X (v := 0) (by decide) dX2_seekWithIdle_162 ?_
        obtain rfl := Option.some.inj hq
        exact J_zret (pc := 163) X (by decide) dX2_seekWithIdle_163
  · have hq := ite_f hq c1
    refine J_aload_n (pc := 11) X (j := 0) (i := 0) rfl rfl dX2_seekWithIdle_11 ?_
    refine J_getF (pc := 12) X (b := 123) ly122 fl_2_12 rfl dX2_seekWithIdle_12 ?_
    refine J_iload_n (pc := 15) X (j := 1) (i := 1) rfl rfl dX2_seekWithIdle_15 ?_
    obtain ⟨v30, h29, hc, hq⟩ := bnd_e hq
    refine J_callV (pc := 16) (as := [.inl x1]) (st := []) (st2 := [.inl v30]) (r1 := (some (.inl v30), h29)) (h2 := h29) (ky := 3) X dX2_seekWithIdle_16 ca_X11_agreed ci_X11_agreed cs_X11_agreed ml_2_109 (by omega) ly123 rfl rfl (m_X11_agreed _ _ _ hc) rfl rfl (Nat.le_of_ble_eq_true rfl) rfl rfl ?_
    refine J_if_eq (pc := 19) (tgt := 26) X dX2_seekWithIdle_19 rfl (fun c31 => ?_) (fun c31 => ?_)
    · have hq := ite_t hq c31
      refine J_iconst (pc := 26) X (v := 0) (by decide) dX2_seekWithIdle_26 ?_
      obtain rfl := Option.some.inj hq
      exact J_zret (pc := 27) X (by decide) dX2_seekWithIdle_27
    · have hq := ite_f hq c31
      refine J_iconst (pc := 22) X (v := 1) (by decide) dX2_seekWithIdle_22 ?_
      refine J_goto (pc := 23) X (tgt := 27) dX2_seekWithIdle_23 rfl ?_
      obtain rfl := Option.some.inj hq
      exact J_zret (pc := 27) X (by decide) dX2_seekWithIdle_27
theorem mm_X2_seekWithIdle : ∀ (n : Nat) (x1 : Int32) (x2 : Int32) (h : Hp) (q : (Int32 × Hp)) , itr3 E_X2_seekWithIdle n x1 x2 h = some q → ∀ l w, CT l w yX2_seekWithIdle cX2_seekWithIdle 7 (some .boolean) (5 + n) [.inr (.inr 122), .inl x1, .inl x2] h (some (.inl q.1), q.2) := by
  intro n
  induction n with
  | zero => intro x1 x2 h q  hq; cases hq
  | succ n ih =>
    intro x1 x2 h q  hq
    exact CT_of (L0 := [(0, .inr (.inr 122)), (1, .inl x1), (2, .inl x2)]) (by decide) rfl (Nat.le_of_ble_eq_true rfl) (fun κ X => tE_X2_seekWithIdle (k0 := 5 + n) X (itr3 E_X2_seekWithIdle n) x1 x2 h q (Nat.le_add_right _ _) ih  hq)
theorem m_X2_seekWithIdle (x1 : Int32) (x2 : Int32) (h : Hp) (q : (Int32 × Hp)) (hq : f_X2_seekWithIdle x1 x2 h = some q) : ∀ l w, CT l w yX2_seekWithIdle cX2_seekWithIdle 7 (some .boolean) 405 [.inr (.inr 122), .inl x1, .inl x2] h (some (.inl q.1), q.2) := mm_X2_seekWithIdle 400 x1 x2 h q  hq
theorem tF_X2_seekMended_32 {κ : Kx} (X : OK κ cX2_seekMended 4 (some .int) "StruckWords$Finder" 406) (x2 : Nat) (k59 : Int32 → Hp → Option (Int32 × Hp)) (k84 : Hp → Option (Int32 × Hp)) (self : Int32 → Hp → Option (Int32 × Hp)) (x3 : Int32) (h : Hp) (q : (Int32 × Hp)) (lx2 : lay x2 = some (.inl 5)) (hk59 : ∀ (x3 : Int32) (h : Hp) (q : (Int32 × Hp)), k59 x3 h = some q → J κ 59 [(0, .inr (.inr 122)), (3, .inl x3)] [] h (some (.inl q.1), q.2)) (hk84 : ∀ (h : Hp) (q : (Int32 × Hp)), k84 h = some q → J κ 84 [] [] h (some (.inl q.1), q.2)) (hself : ∀ (x3 : Int32) (h : Hp) (q : (Int32 × Hp)), self x3 h = some q → J κ 32 [(0, .inr (.inr 122)), (2, .inr (.inr x2)), (3, .inl x3)] [] h (some (.inl q.1), q.2)) (hq : F_X2_seekMended_32 x2 k59 k84 self x3 h = some q) : J κ 32 [(0, .inr (.inr 122)), (2, .inr (.inr x2)), (3, .inl x3)] [] h (some (.inl q.1), q.2) := by
  delta F_X2_seekMended_32 at hq
  refine J_iload_n (pc := 32) X (j := 2) (i := 3) rfl rfl dX2_seekMended_32 ?_
  refine J_iconst (pc := 33) X (v := 3) (by decide) dX2_seekMended_33 ?_
  refine J_icmp_gt (pc := 34) (tgt := 84) X dX2_seekMended_34 rfl (fun c5 => ?_) (fun c5 => ?_)
  · have hq := ite_t hq c5
    refine J_sub [] rfl ?_
    exact hk84 _ _ hq
  · have hq := ite_f hq c5
    refine J_aload_n (pc := 37) X (j := 0) (i := 0) rfl rfl dX2_seekMended_37 ?_
    refine J_getF (pc := 38) X (b := 123) ly122 fl_2_12 rfl dX2_seekMended_38 ?_
    refine J_aload_n (pc := 41) X (j := 1) (i := 2) rfl rfl dX2_seekMended_41 ?_
    refine J_getI (pc := 42) X lx2 fl_2_74 dX2_seekMended_42 ?_
    refine J_iload_n (pc := 45) X (j := 2) (i := 3) rfl rfl dX2_seekMended_45 ?_
    refine J_iadd (pc := 46) X dX2_seekMended_46 ?_
    refine J_putI (pc := 47) X ly123 fp_2_67 dX2_seekMended_47 ?_
    refine J_ltH hq (fun h6 hq => ?_)
    refine J_aload_n (pc := 50) X (j := 0) (i := 0) rfl rfl dX2_seekMended_50 ?_
    refine J_iconst (pc := 51) X (v := 0) (by decide) dX2_seekMended_51 ?_
    refine J_iconst (pc := 52) X (v := 0) (by decide) dX2_seekMended_52 ?_
    obtain ⟨v8, h7, hc, hq⟩ := bnd_e hq
    refine J_callV (pc := 53) (as := [.inl 0, .inl 0]) (st := []) (st2 := [.inl v8]) (r1 := (some (.inl v8), h7)) (h2 := h7) (ky := 405) X dX2_seekMended_53 ca_X2_seekWithIdle ci_X2_seekWithIdle cs_X2_seekWithIdle ml_2_116 (by decide) ly122 rfl rfl (m_X2_seekWithIdle _ _ _ _ hc) rfl rfl (Nat.le_of_ble_eq_true rfl) rfl rfl ?_
    refine J_if_eq (pc := 56) (tgt := 78) X dX2_seekMended_56 rfl (fun c9 => ?_) (fun c9 => ?_)
    · have hq := ite_t hq c9
      refine J_iinc (pc := 78) X (j := 2) (v := 1) (L' := [(3, .inl (x3 + 1)), (0, .inr (.inr 122)), (2, .inr (.inr x2))]) rfl (by decide) (by decide) rfl dX2_seekMended_78 ?_
      refine J_goto (pc := 81) X (tgt := 32) dX2_seekMended_81 rfl ?_
      refine J_sub [1, 2, 0] rfl ?_
      exact hself _ _ _ hq
    · have hq := ite_f hq c9
      refine J_sub [0, 2] rfl ?_
      exact hk59 _ _ _ hq
theorem tL_X2_seekMended_32 {κ : Kx} (X : OK κ cX2_seekMended 4 (some .int) "StruckWords$Finder" 406) (x2 : Nat) (k59 : Int32 → Hp → Option (Int32 × Hp)) (k84 : Hp → Option (Int32 × Hp)) (N : Nat) (x3 : Int32) (h : Hp) (q : (Int32 × Hp)) (lx2 : lay x2 = some (.inl 5)) (hk59 : ∀ (x3 : Int32) (h : Hp) (q : (Int32 × Hp)), k59 x3 h = some q → J κ 59 [(0, .inr (.inr 122)), (3, .inl x3)] [] h (some (.inl q.1), q.2)) (hk84 : ∀ (h : Hp) (q : (Int32 × Hp)), k84 h = some q → J κ 84 [] [] h (some (.inl q.1), q.2)) (hq : itr2 (F_X2_seekMended_32 x2 k59 k84) N x3 h = some q) : J κ 32 [(0, .inr (.inr 122)), (2, .inr (.inr x2)), (3, .inl x3)] [] h (some (.inl q.1), q.2) :=
  itr2_ind (fun self hs x3 h q hq => tF_X2_seekMended_32 X x2 k59 k84 self x3 h q lx2 hk59 hk84 hs hq) N x3 h q hq
theorem tf_X2_seekMended {κ : Kx} (X : OK κ cX2_seekMended 4 (some .int) "StruckWords$Finder" 406) (x1 : Nat) (x2 : Nat) (h : Hp) (q : (Int32 × Hp)) (lx1 : lay x1 = some (.inl 8)) (lx2 : lay x2 = some (.inl 5)) (hq : f_X2_seekMended x1 x2 h = some q) : J κ 0 [(0, .inr (.inr 122)), (1, .inr (.inr x1)), (2, .inr (.inr x2))] [] h (some (.inl q.1), q.2) := by
  delta f_X2_seekMended at hq
  refine J_aload_n (pc := 0) X (j := 0) (i := 0) rfl rfl dX2_seekMended_0 ?_
  refine J_aload_n (pc := 1) X (j := 1) (i := 1) rfl rfl dX2_seekMended_1 ?_
  refine J_putR (pc := 2) X ly122 fp_2_59 dX2_seekMended_2 ?_
  refine J_ltH hq (fun h1 hq => ?_)
  refine J_aload_n (pc := 5) X (j := 0) (i := 0) rfl rfl dX2_seekMended_5 ?_
  refine J_aload_n (pc := 6) X (j := 2) (i := 2) rfl rfl dX2_seekMended_6 ?_
  refine J_putR (pc := 7) X ly122 fp_2_113 dX2_seekMended_7 ?_
  refine J_ltH hq (fun h2 hq => ?_)
  refine J_aload_n (pc := 10) X (j := 0) (i := 0) rfl rfl dX2_seekMended_10 ?_
  refine J_bipush (pc := 11) X (v := 10) (by decide) dX2_seekMended_11 ?_
  refine J_bipush (pc := 13) X (v := 10) (by decide) dX2_seekMended_13 ?_
  obtain ⟨h3, hc, hq⟩ := bnv_e hq
  refine J_callV (pc := 15) (as := [.inl 10, .inl 10]) (st := []) (st2 := []) (r1 := (none, h3)) (h2 := h3) (ky := 2) X dX2_seekMended_15 ca_X2_wantByAll ci_X2_wantByAll cs_X2_wantByAll ml_2_102 (by decide) ly122 rfl rfl (m_X2_wantByAll _ _ _ _ hc) rfl rfl (Nat.le_of_ble_eq_true rfl) rfl rfl ?_
  refine J_aload_n (pc := 18) X (j := 0) (i := 0) rfl rfl dX2_seekMended_18 ?_
  refine J_getF (pc := 19) X (b := 123) ly122 fl_2_12 rfl dX2_seekMended_19 ?_
  refine J_aload_n (pc := 22) X (j := 1) (i := 1) rfl rfl dX2_seekMended_22 ?_
  refine J_aload_n (pc := 23) X (j := 1) (i := 1) rfl rfl dX2_seekMended_23 ?_
  refine J_getF (pc := 24) X (b := x1 + 2) lx1 fl_2_86 rfl dX2_seekMended_24 ?_
  obtain ⟨h4, hc, hq⟩ := bnv_e hq
  refine J_callV (pc := 27) (as := [.inr (.inr x1), .inr (.inr (x1 + 2))]) (st := []) (st2 := []) (r1 := (none, h4)) (h2 := h4) (ky := 2) X dX2_seekMended_27 ca_X11_begin ci_X11_begin cs_X11_begin ml_2_63 (by decide) ly123 rfl rfl (m_X11_begin _ _ _ _ lx1 (ly_8_2 lx1) hc) rfl rfl (Nat.le_of_ble_eq_true rfl) rfl rfl ?_
  refine J_iconst (pc := 30) X (v := 0) (by decide) dX2_seekMended_30 ?_
  refine J_istore_n (pc := 31) X (L' := [(3, .inl 0), (0, .inr (.inr 122)), (1, .inr (.inr x1)), (2, .inr (.inr x2))]) (i := 3) rfl (by decide) rfl dX2_seekMended_31 ?_
  refine J_sub [1, 3, 0] rfl ?_
  refine tL_X2_seekMended_32 X _ _ _ N0 _ _ _ lx2 ?_ ?_ hq
  · intro v11 h10 q hq
    refine J_aload_n (pc := 59) X (j := 0) (i := 0) rfl rfl dX2_seekMended_59 ?_
    refine J_getF (pc := 60) X (b := 123) ly122 fl_2_12 rfl dX2_seekMended_60 ?_
    refine J_getF (pc := 63) X (b := 128) ly123 fl_2_48 rfl dX2_seekMended_63 ?_
    refine J_aload_n (pc := 66) X (j := 0) (i := 0) rfl rfl dX2_seekMended_66 ?_
    refine J_getF (pc := 67) X (b := 123) ly122 fl_2_12 rfl dX2_seekMended_67 ?_
    refine J_getI (pc := 70) X ly123 fl_2_67 dX2_seekMended_70 ?_
    refine J_putI (pc := 73) X ly128 fp_2_74 dX2_seekMended_73 ?_
    refine J_ltH hq (fun h12 hq => ?_)
    refine J_iload_n (pc := 76) X (j := 1) (i := 3) rfl rfl dX2_seekMended_76 ?_
    obtain rfl := Option.some.inj hq
    exact J_iret (pc := 77) X dX2_seekMended_77
  · intro h13 q hq
    refine J_iconst (pc := 84) X (v := (-1)) (by decide) dX2_seekMended_84 ?_
    obtain rfl := Option.some.inj hq
    exact J_iret (pc := 85) X dX2_seekMended_85
theorem m_X2_seekMended (x1 : Nat) (x2 : Nat) (h : Hp) (q : (Int32 × Hp)) (lx1 : lay x1 = some (.inl 8)) (lx2 : lay x2 = some (.inl 5)) (hq : f_X2_seekMended x1 x2 h = some q) : ∀ l w, CT l w yX2_seekMended cX2_seekMended 4 (some .int) 406 [.inr (.inr 122), .inr (.inr x1), .inr (.inr x2)] h (some (.inl q.1), q.2) :=
  CT_of (L0 := [(0, .inr (.inr 122)), (1, .inr (.inr x1)), (2, .inr (.inr x2))]) (by decide) rfl (Nat.le_of_ble_eq_true rfl) (fun κ X => tf_X2_seekMended X x1 x2 h q lx1 lx2 hq)
theorem tf_X7_put {κ : Kx} (X : OK κ cX7_put 2 (none) "StruckWords$Row" 1) (x0 : Nat) (x1 : Int32) (h : Hp) (q : Hp) (lx0 : lay x0 = some (.inl 5)) (hq : f_X7_put x0 x1 h = some q) : J κ 0 [(0, .inr (.inr x0)), (1, .inl x1)] [] h (none, q) := by
  delta f_X7_put at hq
  refine J_aload_n (pc := 0) X (j := 0) (i := 0) rfl rfl dX7_put_0 ?_
  refine J_getI (pc := 1) X lx0 fl_7_21 dX7_put_1 ?_
  refine J_aload_n (pc := 4) X (j := 0) (i := 0) rfl rfl dX7_put_4 ?_
  refine J_getF (pc := 5) X (b := x0 + 1) lx0 fl_7_15 rfl dX7_put_5 ?_
  refine J_alen (pc := 8) X (v := Int32.ofNat (aln (x0 + 1))) (ly_5_1 lx0) (by decide) rfl dX7_put_8 ?_
  refine J_icmp_ge (pc := 9) (tgt := 32) X dX7_put_9 rfl (fun c1 => ?_) (fun c1 => ?_)
  · have hq := ite_t hq c1
    obtain rfl := Option.some.inj hq
    exact J_vret (pc := 32) X dX7_put_32
  · have hq := ite_f hq c1
    refine J_aload_n (pc := 12) X (j := 0) (i := 0) rfl rfl dX7_put_12 ?_
    refine J_getF (pc := 13) X (b := x0 + 1) lx0 fl_7_15 rfl dX7_put_13 ?_
    refine J_aload_n (pc := 16) X (j := 0) (i := 0) rfl rfl dX7_put_16 ?_
    refine J_getI (pc := 17) X lx0 fl_7_21 dX7_put_17 ?_
    refine J_iload_n (pc := 20) X (j := 1) (i := 1) rfl rfl dX7_put_20 ?_
    obtain ⟨g2, hq⟩ := gd hq
    refine J_iastore (pc := 21) X (ly_5_1 lx0) g2 dX7_put_21 ?_
    refine J_ltH hq (fun h3 hq => ?_)
    refine J_aload_n (pc := 22) X (j := 0) (i := 0) rfl rfl dX7_put_22 ?_
    refine J_dup (pc := 23) X rfl dX7_put_23 ?_
    refine J_getI (pc := 24) X lx0 fl_7_21 dX7_put_24 ?_
    refine J_iconst (pc := 27) X (v := 1) (by decide) dX7_put_27 ?_
    refine J_iadd (pc := 28) X dX7_put_28 ?_
    refine J_putI (pc := 29) X lx0 fp_7_21 dX7_put_29 ?_
    refine J_ltH hq (fun h4 hq => ?_)
    obtain rfl := Option.some.inj hq
    exact J_vret (pc := 32) X dX7_put_32
theorem m_X7_put (x0 : Nat) (x1 : Int32) (h : Hp) (q : Hp) (lx0 : lay x0 = some (.inl 5)) (hq : f_X7_put x0 x1 h = some q) : ∀ l w, CT l w yX7_put cX7_put 2 (none) 1 [.inr (.inr x0), .inl x1] h (none, q) :=
  CT_of (L0 := [(0, .inr (.inr x0)), (1, .inl x1)]) (by decide) rfl (Nat.le_of_ble_eq_true rfl) (fun κ X => tf_X7_put X x0 x1 h q lx0 hq)
theorem tF_X3_strike_10 {κ : Kx} (X : OK κ cX3_strike 4 (some (.object "StruckWords$Row")) "StruckWords$Judge" 2) (x1 : Nat) (x2 : Int32) (k60 : Hp → Option (Nat × Hp)) (self : Int32 → Hp → Option (Nat × Hp)) (x3 : Int32) (h : Hp) (q : (Nat × Hp)) (lx1 : lay x1 = some (.inl 3)) (hk60 : ∀ (h : Hp) (q : (Nat × Hp)), k60 h = some q → J κ 60 [(0, .inr (.inr 113))] [] h (some (.inr (.inr q.1)), q.2)) (hself : ∀ (x3 : Int32) (h : Hp) (q : (Nat × Hp)), self x3 h = some q → J κ 10 [(0, .inr (.inr 113)), (1, .inr (.inr x1)), (2, .inl x2), (3, .inl x3)] [] h (some (.inr (.inr q.1)), q.2)) (hq : F_X3_strike_10 x1 x2 k60 self x3 h = some q) : J κ 10 [(0, .inr (.inr 113)), (1, .inr (.inr x1)), (2, .inl x2), (3, .inl x3)] [] h (some (.inr (.inr q.1)), q.2) := by
  delta F_X3_strike_10 at hq
  refine J_iload_n (pc := 10) X (j := 3) (i := 3) rfl rfl dX3_strike_10 ?_
  refine J_aload_n (pc := 11) X (j := 1) (i := 1) rfl rfl dX3_strike_11 ?_
  refine J_getF (pc := 12) X (b := x1 + 12) lx1 fl_3_44 rfl dX3_strike_12 ?_
  refine J_getI (pc := 15) X (ly_3_12 lx1) fl_3_40 dX3_strike_15 ?_
  refine J_icmp_ge (pc := 18) (tgt := 60) X dX3_strike_18 rfl (fun c2 => ?_) (fun c2 => ?_)
  · have hq := ite_t hq c2
    refine J_sub [0] rfl ?_
    exact hk60 _ _ hq
  · have hq := ite_f hq c2
    refine J_aload_n (pc := 21) X (j := 1) (i := 1) rfl rfl dX3_strike_21 ?_
    refine J_getF (pc := 22) X (b := x1 + 1) lx1 fl_3_49 rfl dX3_strike_22 ?_
    refine J_getF (pc := 25) X (b := x1 + 1 + 2) (ly_3_1 lx1) fl_3_53 rfl dX3_strike_25 ?_
    refine J_iload_n (pc := 28) X (j := 2) (i := 2) rfl rfl dX3_strike_28 ?_
    refine J_iload_n (pc := 29) X (j := 3) (i := 3) rfl rfl dX3_strike_29 ?_
    refine J_iconst (pc := 30) X (v := 1) (by decide) dX3_strike_30 ?_
    refine J_iadd (pc := 31) X dX3_strike_31 ?_
    obtain ⟨v4, h3, hc, hq⟩ := bnd_e hq
    refine J_callV (pc := 32) (as := [.inl x2, .inl (x3 + 1)]) (st := []) (st2 := [.inl v4]) (r1 := (some (.inl v4), h3)) (h2 := h3) (ky := 1) X dX3_strike_32 ca_X1_strikes ci_X1_strikes cs_X1_strikes ml_3_59 (by decide) (ly_8_2 (ly_3_1 lx1)) rfl rfl (m_X1_strikes _ _ _ _ _ (ly_8_2 (ly_3_1 lx1)) hc) rfl rfl (Nat.le_of_ble_eq_true rfl) rfl rfl ?_
    refine J_if_ne (pc := 35) (tgt := 54) X dX3_strike_35 rfl (fun c5 => ?_) (fun c5 => ?_)
    · have hq := ite_f hq c5
      refine J_iinc (pc := 54) X (j := 3) (v := 1) (L' := [(3, .inl (x3 + 1)), (0, .inr (.inr 113)), (1, .inr (.inr x1)), (2, .inl x2)]) rfl (by decide) (by decide) rfl dX3_strike_54 ?_
      refine J_goto (pc := 57) X (tgt := 10) dX3_strike_57 rfl ?_
      refine J_sub [1, 2, 3, 0] rfl ?_
      exact hself _ _ _ hq
    · have hq := ite_t hq c5
      refine J_aload_n (pc := 38) X (j := 0) (i := 0) rfl rfl dX3_strike_38 ?_
      refine J_getF (pc := 39) X (b := 114) ly113 fl_3_14 rfl dX3_strike_39 ?_
      refine J_aload_n (pc := 42) X (j := 1) (i := 1) rfl rfl dX3_strike_42 ?_
      refine J_getF (pc := 43) X (b := x1 + 12) lx1 fl_3_44 rfl dX3_strike_43 ?_
      refine J_getF (pc := 46) X (b := x1 + 12 + 1) (ly_3_12 lx1) fl_3_65 rfl dX3_strike_46 ?_
      refine J_iload_n (pc := 49) X (j := 3) (i := 3) rfl rfl dX3_strike_49 ?_
      obtain ⟨g6, hq⟩ := gd hq
      refine J_iaload (pc := 50) X (ly_5_1 (ly_3_12 lx1)) g6 dX3_strike_50 ?_
      obtain ⟨h7, hc, hq⟩ := bnv_e hq
      refine J_callV (pc := 51) (as := [.inl (h3.1 (x1 + 12 + 1) (x3.toNatClampNeg))]) (st := []) (st2 := []) (r1 := (none, h7)) (h2 := h7) (ky := 1) X dX3_strike_51 ca_X7_put ci_X7_put cs_X7_put ml_3_68 (by decide) ly114 rfl rfl (m_X7_put _ _ _ _ ly114 hc) rfl rfl (Nat.le_of_ble_eq_true rfl) rfl rfl ?_
      refine J_iinc (pc := 54) X (j := 3) (v := 1) (L' := [(3, .inl (x3 + 1)), (0, .inr (.inr 113)), (1, .inr (.inr x1)), (2, .inl x2)]) rfl (by decide) (by decide) rfl dX3_strike_54 ?_
      refine J_goto (pc := 57) X (tgt := 10) dX3_strike_57 rfl ?_
      refine J_sub [1, 2, 3, 0] rfl ?_
      exact hself _ _ _ hq
theorem tL_X3_strike_10 {κ : Kx} (X : OK κ cX3_strike 4 (some (.object "StruckWords$Row")) "StruckWords$Judge" 2) (x1 : Nat) (x2 : Int32) (k60 : Hp → Option (Nat × Hp)) (N : Nat) (x3 : Int32) (h : Hp) (q : (Nat × Hp)) (lx1 : lay x1 = some (.inl 3)) (hk60 : ∀ (h : Hp) (q : (Nat × Hp)), k60 h = some q → J κ 60 [(0, .inr (.inr 113))] [] h (some (.inr (.inr q.1)), q.2)) (hq : itr2 (F_X3_strike_10 x1 x2 k60) N x3 h = some q) : J κ 10 [(0, .inr (.inr 113)), (1, .inr (.inr x1)), (2, .inl x2), (3, .inl x3)] [] h (some (.inr (.inr q.1)), q.2) :=
  itr2_ind (fun self hs x3 h q hq => tF_X3_strike_10 X x1 x2 k60 self x3 h q lx1 hk60 hs hq) N x3 h q hq
theorem tf_X3_strike {κ : Kx} (X : OK κ cX3_strike 4 (some (.object "StruckWords$Row")) "StruckWords$Judge" 2) (x1 : Nat) (x2 : Int32) (h : Hp) (q : (Nat × Hp)) (lx1 : lay x1 = some (.inl 3)) (hq : f_X3_strike x1 x2 h = some q) : J κ 0 [(0, .inr (.inr 113)), (1, .inr (.inr x1)), (2, .inl x2)] [] h (some (.inr (.inr q.1)), q.2) := by
  delta f_X3_strike at hq
  refine J_aload_n (pc := 0) X (j := 0) (i := 0) rfl rfl dX3_strike_0 ?_
  refine J_getF (pc := 1) X (b := 114) ly113 fl_3_14 rfl dX3_strike_1 ?_
  refine J_iconst (pc := 4) X (v := 0) (by decide) dX3_strike_4 ?_
  refine J_putI (pc := 5) X ly114 fp_3_40 dX3_strike_5 ?_
  refine J_ltH hq (fun h1 hq => ?_)
  refine J_iconst (pc := 8) X (v := 0) (by decide) dX3_strike_8 ?_
  refine J_istore_n (pc := 9) X (L' := [(3, .inl 0), (0, .inr (.inr 113)), (1, .inr (.inr x1)), (2, .inl x2)]) (i := 3) rfl (by decide) rfl dX3_strike_9 ?_
  refine J_sub [1, 2, 3, 0] rfl ?_
  refine tL_X3_strike_10 X _ _ _ N0 _ _ _ lx1 ?_ hq
  · intro h8 q hq
    refine J_aload_n (pc := 60) X (j := 0) (i := 0) rfl rfl dX3_strike_60 ?_
    refine J_getF (pc := 61) X (b := 114) ly113 fl_3_14 rfl dX3_strike_61 ?_
    obtain rfl := Option.some.inj hq
    exact J_aret (pc := 64) X (Or.inl ⟨_, rfl⟩) dX3_strike_64
theorem m_X3_strike (x1 : Nat) (x2 : Int32) (h : Hp) (q : (Nat × Hp)) (lx1 : lay x1 = some (.inl 3)) (hq : f_X3_strike x1 x2 h = some q) : ∀ l w, CT l w yX3_strike cX3_strike 4 (some (.object "StruckWords$Row")) 2 [.inr (.inr 113), .inr (.inr x1), .inl x2] h (some (.inr (.inr q.1)), q.2) :=
  CT_of (L0 := [(0, .inr (.inr 113)), (1, .inr (.inr x1)), (2, .inl x2)]) (by decide) rfl (Nat.le_of_ble_eq_true rfl) (fun κ X => tf_X3_strike X x1 x2 h q lx1 hq)
theorem tF_X3_meansBy_8 {κ : Kx} (X : OK κ cX3_meansBy 7 (some .int) "StruckWords$Judge" 3) (x1 : Nat) (x2 : Nat) (x3 : Int32) (k53 : Int64 → Hp → Option (Int32 × Hp)) (self : Int64 → Int32 → Hp → Option (Int32 × Hp)) (x4 : Int64) (x6 : Int32) (h : Hp) (q : (Int32 × Hp)) (lx1 : lay x1 = some (.inl 8)) (lx2 : lay x2 = some (.inl 5)) (hk53 : ∀ (x4 : Int64) (h : Hp) (q : (Int32 × Hp)), k53 x4 h = some q → J κ 53 [(1, .inr (.inr x1)), (4, .inr (.inl x4))] [] h (some (.inl q.1), q.2)) (hself : ∀ (x4 : Int64) (x6 : Int32) (h : Hp) (q : (Int32 × Hp)), self x4 x6 h = some q → J κ 8 [(1, .inr (.inr x1)), (2, .inr (.inr x2)), (3, .inl x3), (4, .inr (.inl x4)), (6, .inl x6)] [] h (some (.inl q.1), q.2)) (hq : F_X3_meansBy_8 x1 x2 x3 k53 self x4 x6 h = some q) : J κ 8 [(1, .inr (.inr x1)), (2, .inr (.inr x2)), (3, .inl x3), (4, .inr (.inl x4)), (6, .inl x6)] [] h (some (.inl q.1), q.2) := by
  delta F_X3_meansBy_8 at hq
  refine J_iload (pc := 8) X (j := 4) rfl dX3_meansBy_8 ?_
  refine J_aload_n (pc := 10) X (j := 1) (i := 2) rfl rfl dX3_meansBy_10 ?_
  refine J_getI (pc := 11) X lx2 fl_3_40 dX3_meansBy_11 ?_
  refine J_icmp_ge (pc := 14) (tgt := 53) X dX3_meansBy_14 rfl (fun c1 => ?_) (fun c1 => ?_)
  · have hq := ite_t hq c1
    refine J_sub [0, 3] rfl ?_
    exact hk53 _ _ _ hq
  · have hq := ite_f hq c1
    refine J_aload_n (pc := 17) X (j := 0) (i := 1) rfl rfl dX3_meansBy_17 ?_
    refine J_getF (pc := 18) X (b := x1 + 2) lx1 fl_3_53 rfl dX3_meansBy_18 ?_
    refine J_iload_n (pc := 21) X (j := 2) (i := 3) rfl rfl dX3_meansBy_21 ?_
    refine J_iload (pc := 22) X (j := 4) rfl dX3_meansBy_22 ?_
    refine J_iconst (pc := 24) X (v := 1) (by decide) dX3_meansBy_24 ?_
    refine J_iadd (pc := 25) X dX3_meansBy_25 ?_
    obtain ⟨v3, h2, hc, hq⟩ := bnd_e hq
    refine J_callV (pc := 26) (as := [.inl x3, .inl (x6 + 1)]) (st := []) (st2 := [.inl v3]) (r1 := (some (.inl v3), h2)) (h2 := h2) (ky := 1) X dX3_meansBy_26 ca_X1_strikes ci_X1_strikes cs_X1_strikes ml_3_59 (by decide) (ly_8_2 lx1) rfl rfl (m_X1_strikes _ _ _ _ _ (ly_8_2 lx1) hc) rfl rfl (Nat.le_of_ble_eq_true rfl) rfl rfl ?_
    refine J_if_ne (pc := 29) (tgt := 47) X dX3_meansBy_29 rfl (fun c4 => ?_) (fun c4 => ?_)
    · have hq := ite_f hq c4
      refine J_iinc (pc := 47) X (j := 4) (v := 1) (L' := [(6, .inl (x6 + 1)), (1, .inr (.inr x1)), (2, .inr (.inr x2)), (3, .inl x3), (4, .inr (.inl x4))]) rfl (by decide) (by decide) rfl dX3_meansBy_47 ?_
      refine J_goto (pc := 50) X (tgt := 8) dX3_meansBy_50 rfl ?_
      refine J_sub [1, 2, 3, 4, 0] rfl ?_
      exact hself _ _ _ _ hq
    · have hq := ite_t hq c4
      refine J_aload_n (pc := 32) X (j := 0) (i := 1) rfl rfl dX3_meansBy_32 ?_
      refine J_lload (pc := 33) X (j := 3) rfl dX3_meansBy_33 ?_
      refine J_aload_n (pc := 35) X (j := 1) (i := 2) rfl rfl dX3_meansBy_35 ?_
      refine J_getF (pc := 36) X (b := x2 + 1) lx2 fl_3_65 rfl dX3_meansBy_36 ?_
      refine J_iload (pc := 39) X (j := 4) rfl dX3_meansBy_39 ?_
      obtain ⟨g5, hq⟩ := gd hq
      refine J_iaload (pc := 41) X (ly_5_1 lx2) g5 dX3_meansBy_41 ?_
      obtain ⟨v7, h6, hc, hq⟩ := bnd_e hq
      refine J_callV (pc := 42) (as := [.inr (.inl x4), .inl (h2.1 (x2 + 1) (x6.toNatClampNeg))]) (st := []) (st2 := [.inr (.inl v7)]) (r1 := (some (.inr (.inl v7)), h6)) (h2 := h6) (ky := 2) X dX3_meansBy_42 ca_X10_stepped ci_X10_stepped cs_X10_stepped ml_3_73 (by decide) lx1 rfl rfl (m_X10_stepped _ _ _ _ _ lx1 hc) rfl rfl (Nat.le_of_ble_eq_true rfl) rfl rfl ?_
      refine J_lstore (pc := 45) X (L' := [(4, .inr (.inl v7)), (1, .inr (.inr x1)), (2, .inr (.inr x2)), (3, .inl x3), (6, .inl x6)]) (by decide) rfl dX3_meansBy_45 ?_
      refine J_iinc (pc := 47) X (j := 4) (v := 1) (L' := [(6, .inl (x6 + 1)), (4, .inr (.inl v7)), (1, .inr (.inr x1)), (2, .inr (.inr x2)), (3, .inl x3)]) rfl (by decide) (by decide) rfl dX3_meansBy_47 ?_
      refine J_goto (pc := 50) X (tgt := 8) dX3_meansBy_50 rfl ?_
      refine J_sub [2, 3, 4, 1, 0] rfl ?_
      exact hself _ _ _ _ hq
theorem tL_X3_meansBy_8 {κ : Kx} (X : OK κ cX3_meansBy 7 (some .int) "StruckWords$Judge" 3) (x1 : Nat) (x2 : Nat) (x3 : Int32) (k53 : Int64 → Hp → Option (Int32 × Hp)) (N : Nat) (x4 : Int64) (x6 : Int32) (h : Hp) (q : (Int32 × Hp)) (lx1 : lay x1 = some (.inl 8)) (lx2 : lay x2 = some (.inl 5)) (hk53 : ∀ (x4 : Int64) (h : Hp) (q : (Int32 × Hp)), k53 x4 h = some q → J κ 53 [(1, .inr (.inr x1)), (4, .inr (.inl x4))] [] h (some (.inl q.1), q.2)) (hq : itr3 (F_X3_meansBy_8 x1 x2 x3 k53) N x4 x6 h = some q) : J κ 8 [(1, .inr (.inr x1)), (2, .inr (.inr x2)), (3, .inl x3), (4, .inr (.inl x4)), (6, .inl x6)] [] h (some (.inl q.1), q.2) :=
  itr3_ind (fun self hs x4 x6 h q hq => tF_X3_meansBy_8 X x1 x2 x3 k53 self x4 x6 h q lx1 lx2 hk53 hs hq) N x4 x6 h q hq
theorem tf_X3_meansBy {κ : Kx} (X : OK κ cX3_meansBy 7 (some .int) "StruckWords$Judge" 3) (x1 : Nat) (x2 : Nat) (x3 : Int32) (h : Hp) (q : (Int32 × Hp)) (lx1 : lay x1 = some (.inl 8)) (lx2 : lay x2 = some (.inl 5)) (hq : f_X3_meansBy x1 x2 x3 h = some q) : J κ 0 [(0, .inr (.inr 113)), (1, .inr (.inr x1)), (2, .inr (.inr x2)), (3, .inl x3)] [] h (some (.inl q.1), q.2) := by
  delta f_X3_meansBy at hq
  refine J_ldc2 (pc := 0) X cl_3_71 dX3_meansBy_0 ?_
  refine J_lstore (pc := 3) X (L' := [(4, .inr (.inl 1099511627776)), (0, .inr (.inr 113)), (1, .inr (.inr x1)), (2, .inr (.inr x2)), (3, .inl x3)]) (by decide) rfl dX3_meansBy_3 ?_
  refine J_iconst (pc := 5) X (v := 0) (by decide) dX3_meansBy_5 ?_
  refine J_istore (pc := 6) X (L' := [(6, .inl 0), (4, .inr (.inl 1099511627776)), (0, .inr (.inr 113)), (1, .inr (.inr x1)), (2, .inr (.inr x2)), (3, .inl x3)]) (by decide) rfl dX3_meansBy_6 ?_
  refine J_sub [3, 4, 5, 1, 0] rfl ?_
  refine tL_X3_meansBy_8 X _ _ _ _ N0 _ _ _ _ lx1 lx2 ?_ hq
  · intro v9 h8 q hq
    refine J_aload_n (pc := 53) X (j := 0) (i := 1) rfl rfl dX3_meansBy_53 ?_
    refine J_lload (pc := 54) X (j := 1) rfl dX3_meansBy_54 ?_
    obtain ⟨v11, h10, hc, hq⟩ := bnd_e hq
    refine J_callV (pc := 56) (as := [.inr (.inl v9)]) (st := []) (st2 := [.inl v11]) (r1 := (some (.inl v11), h10)) (h2 := h10) (ky := 2) X dX3_meansBy_56 ca_X10_meant ci_X10_meant cs_X10_meant ml_3_77 (by decide) lx1 rfl rfl (m_X10_meant _ _ _ _ lx1 hc) rfl rfl (Nat.le_of_ble_eq_true rfl) rfl rfl ?_
    obtain rfl := Option.some.inj hq
    exact J_iret (pc := 59) X dX3_meansBy_59
theorem m_X3_meansBy (x1 : Nat) (x2 : Nat) (x3 : Int32) (h : Hp) (q : (Int32 × Hp)) (lx1 : lay x1 = some (.inl 8)) (lx2 : lay x2 = some (.inl 5)) (hq : f_X3_meansBy x1 x2 x3 h = some q) : ∀ l w, CT l w yX3_meansBy cX3_meansBy 7 (some .int) 3 [.inr (.inr 113), .inr (.inr x1), .inr (.inr x2), .inl x3] h (some (.inl q.1), q.2) :=
  CT_of (L0 := [(0, .inr (.inr 113)), (1, .inr (.inr x1)), (2, .inr (.inr x2)), (3, .inl x3)]) (by decide) rfl (Nat.le_of_ble_eq_true rfl) (fun κ X => tf_X3_meansBy X x1 x2 x3 h q lx1 lx2 hq)
theorem tF_X3_turnsOf_14 {κ : Kx} (X : OK κ cX3_turnsOf 6 (some .int) "StruckWords$Judge" 4) (x1 : Nat) (x2 : Nat) (x3 : Int32) (k53 : Int32 → Hp → Option (Int32 × Hp)) (self : Int32 → Int32 → Hp → Option (Int32 × Hp)) (x4 : Int32) (x5 : Int32) (h : Hp) (q : (Int32 × Hp)) (lx1 : lay x1 = some (.inl 8)) (lx2 : lay x2 = some (.inl 5)) (hk53 : ∀ (x4 : Int32) (h : Hp) (q : (Int32 × Hp)), k53 x4 h = some q → J κ 53 [(4, .inl x4)] [] h (some (.inl q.1), q.2)) (hself : ∀ (x4 : Int32) (x5 : Int32) (h : Hp) (q : (Int32 × Hp)), self x4 x5 h = some q → J κ 14 [(0, .inr (.inr 113)), (1, .inr (.inr x1)), (2, .inr (.inr x2)), (3, .inl x3), (4, .inl x4), (5, .inl x5)] [] h (some (.inl q.1), q.2)) (hq : F_X3_turnsOf_14 x1 x2 x3 k53 self x4 x5 h = some q) : J κ 14 [(0, .inr (.inr 113)), (1, .inr (.inr x1)), (2, .inr (.inr x2)), (3, .inl x3), (4, .inl x4), (5, .inl x5)] [] h (some (.inl q.1), q.2) := by
  delta F_X3_turnsOf_14 at hq
  refine J_iload (pc := 14) X (j := 5) rfl dX3_turnsOf_14 ?_
  refine J_aload_n (pc := 16) X (j := 1) (i := 1) rfl rfl dX3_turnsOf_16 ?_
  refine J_getF (pc := 17) X (b := x1 + 2) lx1 fl_3_53 rfl dX3_turnsOf_17 ?_
  refine J_getI (pc := 20) X (ly_8_2 lx1) fl_3_85 dX3_turnsOf_20 ?_
  refine J_icmp_gt (pc := 23) (tgt := 53) X dX3_turnsOf_23 rfl (fun c3 => ?_) (fun c3 => ?_)
  · have hq := ite_t hq c3
    refine J_sub [4] rfl ?_
    exact hk53 _ _ _ hq
  · have hq := ite_f hq c3
    refine J_aload_n (pc := 26) X (j := 0) (i := 0) rfl rfl dX3_turnsOf_26 ?_
    refine J_aload_n (pc := 27) X (j := 1) (i := 1) rfl rfl dX3_turnsOf_27 ?_
    refine J_aload_n (pc := 28) X (j := 2) (i := 2) rfl rfl dX3_turnsOf_28 ?_
    refine J_iload (pc := 29) X (j := 5) rfl dX3_turnsOf_29 ?_
    obtain ⟨v5, h4, hc, hq⟩ := bnd_e hq
    refine J_callV (pc := 31) (as := [.inr (.inr x1), .inr (.inr x2), .inl x5]) (st := []) (st2 := [.inl v5]) (r1 := (some (.inl v5), h4)) (h2 := h4) (ky := 3) X dX3_turnsOf_31 ca_X3_meansBy ci_X3_meansBy cs_X3_meansBy ml_3_81 (by decide) ly113 rfl rfl (m_X3_meansBy _ _ _ _ _ lx1 lx2 hc) rfl rfl (Nat.le_of_ble_eq_true rfl) rfl rfl ?_
    refine J_iload_n (pc := 34) X (j := 3) (i := 3) rfl rfl dX3_turnsOf_34 ?_
    refine J_icmp_eq (pc := 35) (tgt := 47) X dX3_turnsOf_35 rfl (fun c6 => ?_) (fun c6 => ?_)
    · have hq := ite_t hq c6
      refine J_iinc (pc := 47) X (j := 5) (v := 1) (L' := [(5, .inl (x5 + 1)), (0, .inr (.inr 113)), (1, .inr (.inr x1)), (2, .inr (.inr x2)), (3, .inl x3), (4, .inl x4)]) rfl (by decide) (by decide) rfl dX3_turnsOf_47 ?_
      refine J_goto (pc := 50) X (tgt := 14) dX3_turnsOf_50 rfl ?_
      refine J_sub [1, 2, 3, 4, 5, 0] rfl ?_
      exact hself _ _ _ _ hq
    · have hq := ite_f hq c6
      refine J_iload (pc := 38) X (j := 4) rfl dX3_turnsOf_38 ?_
      refine J_iconst (pc := 40) X (v := 1) (by decide) dX3_turnsOf_40 ?_
      refine J_iload (pc := 41) X (j := 5) rfl dX3_turnsOf_41 ?_
      refine J_ishl (pc := 43) X dX3_turnsOf_43 ?_
      refine J_ior (pc := 44) X dX3_turnsOf_44 ?_
      refine J_ltI hq (fun v7 hq => ?_)
      refine J_istore (pc := 45) X (L' := [(4, .inl v7), (0, .inr (.inr 113)), (1, .inr (.inr x1)), (2, .inr (.inr x2)), (3, .inl x3), (5, .inl x5)]) (by decide) rfl dX3_turnsOf_45 ?_
      refine J_iinc (pc := 47) X (j := 5) (v := 1) (L' := [(5, .inl (x5 + 1)), (4, .inl v7), (0, .inr (.inr 113)), (1, .inr (.inr x1)), (2, .inr (.inr x2)), (3, .inl x3)]) rfl (by decide) (by decide) rfl dX3_turnsOf_47 ?_
      refine J_goto (pc := 50) X (tgt := 14) dX3_turnsOf_50 rfl ?_
      refine J_sub [2, 3, 4, 5, 1, 0] rfl ?_
      exact hself _ _ _ _ hq
theorem tL_X3_turnsOf_14 {κ : Kx} (X : OK κ cX3_turnsOf 6 (some .int) "StruckWords$Judge" 4) (x1 : Nat) (x2 : Nat) (x3 : Int32) (k53 : Int32 → Hp → Option (Int32 × Hp)) (N : Nat) (x4 : Int32) (x5 : Int32) (h : Hp) (q : (Int32 × Hp)) (lx1 : lay x1 = some (.inl 8)) (lx2 : lay x2 = some (.inl 5)) (hk53 : ∀ (x4 : Int32) (h : Hp) (q : (Int32 × Hp)), k53 x4 h = some q → J κ 53 [(4, .inl x4)] [] h (some (.inl q.1), q.2)) (hq : itr3 (F_X3_turnsOf_14 x1 x2 x3 k53) N x4 x5 h = some q) : J κ 14 [(0, .inr (.inr 113)), (1, .inr (.inr x1)), (2, .inr (.inr x2)), (3, .inl x3), (4, .inl x4), (5, .inl x5)] [] h (some (.inl q.1), q.2) :=
  itr3_ind (fun self hs x4 x5 h q hq => tF_X3_turnsOf_14 X x1 x2 x3 k53 self x4 x5 h q lx1 lx2 hk53 hs hq) N x4 x5 h q hq
theorem tf_X3_turnsOf {κ : Kx} (X : OK κ cX3_turnsOf 6 (some .int) "StruckWords$Judge" 4) (x1 : Nat) (x2 : Nat) (h : Hp) (q : (Int32 × Hp)) (lx1 : lay x1 = some (.inl 8)) (lx2 : lay x2 = some (.inl 5)) (hq : f_X3_turnsOf x1 x2 h = some q) : J κ 0 [(0, .inr (.inr 113)), (1, .inr (.inr x1)), (2, .inr (.inr x2))] [] h (some (.inl q.1), q.2) := by
  delta f_X3_turnsOf at hq
  refine J_aload_n (pc := 0) X (j := 0) (i := 0) rfl rfl dX3_turnsOf_0 ?_
  refine J_aload_n (pc := 1) X (j := 1) (i := 1) rfl rfl dX3_turnsOf_1 ?_
  refine J_aload_n (pc := 2) X (j := 2) (i := 2) rfl rfl dX3_turnsOf_2 ?_
  refine J_iconst (pc := 3) X (v := 0) (by decide) dX3_turnsOf_3 ?_
  obtain ⟨v2, h1, hc, hq⟩ := bnd_e hq
  refine J_callV (pc := 4) (as := [.inr (.inr x1), .inr (.inr x2), .inl 0]) (st := []) (st2 := [.inl v2]) (r1 := (some (.inl v2), h1)) (h2 := h1) (ky := 3) X dX3_turnsOf_4 ca_X3_meansBy ci_X3_meansBy cs_X3_meansBy ml_3_81 (by decide) ly113 rfl rfl (m_X3_meansBy _ _ _ _ _ lx1 lx2 hc) rfl rfl (Nat.le_of_ble_eq_true rfl) rfl rfl ?_
  refine J_istore_n (pc := 7) X (L' := [(3, .inl v2), (0, .inr (.inr 113)), (1, .inr (.inr x1)), (2, .inr (.inr x2))]) (i := 3) rfl (by decide) rfl dX3_turnsOf_7 ?_
  refine J_iconst (pc := 8) X (v := 0) (by decide) dX3_turnsOf_8 ?_
  refine J_istore (pc := 9) X (L' := [(4, .inl 0), (3, .inl v2), (0, .inr (.inr 113)), (1, .inr (.inr x1)), (2, .inr (.inr x2))]) (by decide) rfl dX3_turnsOf_9 ?_
  refine J_iconst (pc := 11) X (v := 1) (by decide) dX3_turnsOf_11 ?_
  refine J_istore (pc := 12) X (L' := [(5, .inl 1), (4, .inl 0), (3, .inl v2), (0, .inr (.inr 113)), (1, .inr (.inr x1)), (2, .inr (.inr x2))]) (by decide) rfl dX3_turnsOf_12 ?_
  refine J_sub [3, 4, 5, 2, 1, 0] rfl ?_
  refine tL_X3_turnsOf_14 X _ _ _ _ N0 _ _ _ _ lx1 lx2 ?_ hq
  · intro v9 h8 q hq
    refine J_iload (pc := 53) X (j := 0) rfl dX3_turnsOf_53 ?_
    obtain rfl := Option.some.inj hq
    exact J_iret (pc := 55) X dX3_turnsOf_55
theorem m_X3_turnsOf (x1 : Nat) (x2 : Nat) (h : Hp) (q : (Int32 × Hp)) (lx1 : lay x1 = some (.inl 8)) (lx2 : lay x2 = some (.inl 5)) (hq : f_X3_turnsOf x1 x2 h = some q) : ∀ l w, CT l w yX3_turnsOf cX3_turnsOf 6 (some .int) 4 [.inr (.inr 113), .inr (.inr x1), .inr (.inr x2)] h (some (.inl q.1), q.2) :=
  CT_of (L0 := [(0, .inr (.inr 113)), (1, .inr (.inr x1)), (2, .inr (.inr x2))]) (by decide) rfl (Nat.le_of_ble_eq_true rfl) (fun κ X => tf_X3_turnsOf X x1 x2 h q lx1 lx2 hq)
theorem tF_X3_meanTheSame_3 {κ : Kx} (X : OK κ cX3_meanTheSame 5 (some .boolean) "StruckWords$Judge" 4) (x1 : Nat) (x2 : Nat) (x3 : Nat) (k34 : Hp → Option (Int32 × Hp)) (k42 : Hp → Option (Int32 × Hp)) (self : Int32 → Hp → Option (Int32 × Hp)) (x4 : Int32) (h : Hp) (q : (Int32 × Hp)) (lx1 : lay x1 = some (.inl 8)) (lx2 : lay x2 = some (.inl 5)) (lx3 : lay x3 = some (.inl 5)) (hk34 : ∀ (h : Hp) (q : (Int32 × Hp)), k34 h = some q → J κ 34 [] [] h (some (.inl q.1), q.2)) (hk42 : ∀ (h : Hp) (q : (Int32 × Hp)), k42 h = some q → J κ 42 [] [] h (some (.inl q.1), q.2)) (hself : ∀ (x4 : Int32) (h : Hp) (q : (Int32 × Hp)), self x4 h = some q → J κ 3 [(0, .inr (.inr 113)), (1, .inr (.inr x1)), (2, .inr (.inr x2)), (3, .inr (.inr x3)), (4, .inl x4)] [] h (some (.inl q.1), q.2)) (hq : F_X3_meanTheSame_3 x1 x2 x3 k34 k42 self x4 h = some q) : J κ 3 [(0, .inr (.inr 113)), (1, .inr (.inr x1)), (2, .inr (.inr x2)), (3, .inr (.inr x3)), (4, .inl x4)] [] h (some (.inl q.1), q.2) := by
  delta F_X3_meanTheSame_3 at hq
  refine J_iload (pc := 3) X (j := 4) rfl dX3_meanTheSame_3 ?_
  refine J_aload_n (pc := 5) X (j := 1) (i := 1) rfl rfl dX3_meanTheSame_5 ?_
  refine J_getF (pc := 6) X (b := x1 + 2) lx1 fl_3_53 rfl dX3_meanTheSame_6 ?_
  refine J_getI (pc := 9) X (ly_8_2 lx1) fl_3_85 dX3_meanTheSame_9 ?_
  refine J_icmp_gt (pc := 12) (tgt := 42) X dX3_meanTheSame_12 rfl (fun c1 => ?_) (fun c1 => ?_)
  · have hq := ite_t hq c1
    refine J_sub [] rfl ?_
    exact hk42 _ _ hq
  · have hq := ite_f hq c1
    refine J_aload_n (pc := 15) X (j := 0) (i := 0) rfl rfl dX3_meanTheSame_15 ?_
    refine J_aload_n (pc := 16) X (j := 1) (i := 1) rfl rfl dX3_meanTheSame_16 ?_
    refine J_aload_n (pc := 17) X (j := 2) (i := 2) rfl rfl dX3_meanTheSame_17 ?_
    refine J_iload (pc := 18) X (j := 4) rfl dX3_meanTheSame_18 ?_
    obtain ⟨v3, h2, hc, hq⟩ := bnd_e hq
    refine J_callV (pc := 20) (as := [.inr (.inr x1), .inr (.inr x2), .inl x4]) (st := []) (st2 := [.inl v3]) (r1 := (some (.inl v3), h2)) (h2 := h2) (ky := 3) X dX3_meanTheSame_20 ca_X3_meansBy ci_X3_meansBy cs_X3_meansBy ml_3_81 (by decide) ly113 rfl rfl (m_X3_meansBy _ _ _ _ _ lx1 lx2 hc) rfl rfl (Nat.le_of_ble_eq_true rfl) rfl rfl ?_
    refine J_aload_n (pc := 23) X (j := 0) (i := 0) rfl rfl dX3_meanTheSame_23 ?_
    refine J_aload_n (pc := 24) X (j := 1) (i := 1) rfl rfl dX3_meanTheSame_24 ?_
    refine J_aload_n (pc := 25) X (j := 3) (i := 3) rfl rfl dX3_meanTheSame_25 ?_
    refine J_iload (pc := 26) X (j := 4) rfl dX3_meanTheSame_26 ?_
    obtain ⟨v5, h4, hc, hq⟩ := bnd_e hq
    refine J_callV (pc := 28) (as := [.inr (.inr x1), .inr (.inr x3), .inl x4]) (st := [.inl v3]) (st2 := [.inl v5, .inl v3]) (r1 := (some (.inl v5), h4)) (h2 := h4) (ky := 3) X dX3_meanTheSame_28 ca_X3_meansBy ci_X3_meansBy cs_X3_meansBy ml_3_81 (by decide) ly113 rfl rfl (m_X3_meansBy _ _ _ _ _ lx1 lx3 hc) rfl rfl (Nat.le_of_ble_eq_true rfl) rfl rfl ?_
    refine J_icmp_eq (pc := 31) (tgt := 36) X dX3_meanTheSame_31 rfl (fun c6 => ?_) (fun c6 => ?_)
    · have hq := ite_t hq c6
      refine J_iinc (pc := 36) X (j := 4) (v := 1) (L' := [(4, .inl (x4 + 1)), (0, .inr (.inr 113)), (1, .inr (.inr x1)), (2, .inr (.inr x2)), (3, .inr (.inr x3))]) rfl (by decide) (by decide) rfl dX3_meanTheSame_36 ?_
      refine J_goto (pc := 39) X (tgt := 3) dX3_meanTheSame_39 rfl ?_
      refine J_sub [1, 2, 3, 4, 0] rfl ?_
      exact hself _ _ _ hq
    · have hq := ite_f hq c6
      refine J_sub [] rfl ?_
      exact hk34 _ _ hq
theorem tL_X3_meanTheSame_3 {κ : Kx} (X : OK κ cX3_meanTheSame 5 (some .boolean) "StruckWords$Judge" 4) (x1 : Nat) (x2 : Nat) (x3 : Nat) (k34 : Hp → Option (Int32 × Hp)) (k42 : Hp → Option (Int32 × Hp)) (N : Nat) (x4 : Int32) (h : Hp) (q : (Int32 × Hp)) (lx1 : lay x1 = some (.inl 8)) (lx2 : lay x2 = some (.inl 5)) (lx3 : lay x3 = some (.inl 5)) (hk34 : ∀ (h : Hp) (q : (Int32 × Hp)), k34 h = some q → J κ 34 [] [] h (some (.inl q.1), q.2)) (hk42 : ∀ (h : Hp) (q : (Int32 × Hp)), k42 h = some q → J κ 42 [] [] h (some (.inl q.1), q.2)) (hq : itr2 (F_X3_meanTheSame_3 x1 x2 x3 k34 k42) N x4 h = some q) : J κ 3 [(0, .inr (.inr 113)), (1, .inr (.inr x1)), (2, .inr (.inr x2)), (3, .inr (.inr x3)), (4, .inl x4)] [] h (some (.inl q.1), q.2) :=
  itr2_ind (fun self hs x4 h q hq => tF_X3_meanTheSame_3 X x1 x2 x3 k34 k42 self x4 h q lx1 lx2 lx3 hk34 hk42 hs hq) N x4 h q hq
theorem tf_X3_meanTheSame {κ : Kx} (X : OK κ cX3_meanTheSame 5 (some .boolean) "StruckWords$Judge" 4) (x1 : Nat) (x2 : Nat) (x3 : Nat) (h : Hp) (q : (Int32 × Hp)) (lx1 : lay x1 = some (.inl 8)) (lx2 : lay x2 = some (.inl 5)) (lx3 : lay x3 = some (.inl 5)) (hq : f_X3_meanTheSame x1 x2 x3 h = some q) : J κ 0 [(0, .inr (.inr 113)), (1, .inr (.inr x1)), (2, .inr (.inr x2)), (3, .inr (.inr x3))] [] h (some (.inl q.1), q.2) := by
  delta f_X3_meanTheSame at hq
  refine J_iconst (pc := 0) X (v := 0) (by decide) dX3_meanTheSame_0 ?_
  refine J_istore (pc := 1) X (L' := [(4, .inl 0), (0, .inr (.inr 113)), (1, .inr (.inr x1)), (2, .inr (.inr x2)), (3, .inr (.inr x3))]) (by decide) rfl dX3_meanTheSame_1 ?_
  refine J_sub [1, 2, 3, 4, 0] rfl ?_
  refine tL_X3_meanTheSame_3 X _ _ _ _ _ N0 _ _ _ lx1 lx2 lx3 ?_ ?_ hq
  · intro h7 q hq
    refine J_iconst (pc := 34) X (v := 0) (by decide) dX3_meanTheSame_34 ?_
    obtain rfl := Option.some.inj hq
    exact J_zret (pc := 35) X (by decide) dX3_meanTheSame_35
  · intro h8 q hq
    refine J_iconst (pc := 42) X (v := 1) (by decide) dX3_meanTheSame_42 ?_
    obtain rfl := Option.some.inj hq
    exact J_zret (pc := 43) X (by decide) dX3_meanTheSame_43
theorem m_X3_meanTheSame (x1 : Nat) (x2 : Nat) (x3 : Nat) (h : Hp) (q : (Int32 × Hp)) (lx1 : lay x1 = some (.inl 8)) (lx2 : lay x2 = some (.inl 5)) (lx3 : lay x3 = some (.inl 5)) (hq : f_X3_meanTheSame x1 x2 x3 h = some q) : ∀ l w, CT l w yX3_meanTheSame cX3_meanTheSame 5 (some .boolean) 4 [.inr (.inr 113), .inr (.inr x1), .inr (.inr x2), .inr (.inr x3)] h (some (.inl q.1), q.2) :=
  CT_of (L0 := [(0, .inr (.inr 113)), (1, .inr (.inr x1)), (2, .inr (.inr x2)), (3, .inr (.inr x3))]) (by decide) rfl (Nat.le_of_ble_eq_true rfl) (fun κ X => tf_X3_meanTheSame X x1 x2 x3 h q lx1 lx2 lx3 hq)
theorem tF_X3_beatsBy_6 {κ : Kx} (X : OK κ cX3_beatsBy 6 (some .int) "StruckWords$Judge" 2) (x1 : Nat) (x2 : Nat) (x3 : Int32) (k53 : Int32 → Hp → Option (Int32 × Hp)) (self : Int32 → Int32 → Hp → Option (Int32 × Hp)) (x4 : Int32) (x5 : Int32) (h : Hp) (q : (Int32 × Hp)) (lx1 : lay x1 = some (.inl 8)) (lx2 : lay x2 = some (.inl 5)) (hk53 : ∀ (x4 : Int32) (h : Hp) (q : (Int32 × Hp)), k53 x4 h = some q → J κ 53 [(4, .inl x4)] [] h (some (.inl q.1), q.2)) (hself : ∀ (x4 : Int32) (x5 : Int32) (h : Hp) (q : (Int32 × Hp)), self x4 x5 h = some q → J κ 6 [(1, .inr (.inr x1)), (2, .inr (.inr x2)), (3, .inl x3), (4, .inl x4), (5, .inl x5)] [] h (some (.inl q.1), q.2)) (hq : F_X3_beatsBy_6 x1 x2 x3 k53 self x4 x5 h = some q) : J κ 6 [(1, .inr (.inr x1)), (2, .inr (.inr x2)), (3, .inl x3), (4, .inl x4), (5, .inl x5)] [] h (some (.inl q.1), q.2) := by
  delta F_X3_beatsBy_6 at hq
  refine J_iload (pc := 6) X (j := 4) rfl dX3_beatsBy_6 ?_
  refine J_aload_n (pc := 8) X (j := 1) (i := 2) rfl rfl dX3_beatsBy_8 ?_
  refine J_getI (pc := 9) X lx2 fl_3_40 dX3_beatsBy_9 ?_
  refine J_icmp_ge (pc := 12) (tgt := 53) X dX3_beatsBy_12 rfl (fun c1 => ?_) (fun c1 => ?_)
  · have hq := ite_t hq c1
    refine J_sub [3] rfl ?_
    exact hk53 _ _ _ hq
  · have hq := ite_f hq c1
    refine J_aload_n (pc := 15) X (j := 0) (i := 1) rfl rfl dX3_beatsBy_15 ?_
    refine J_getF (pc := 16) X (b := x1 + 2) lx1 fl_3_53 rfl dX3_beatsBy_16 ?_
    refine J_iload_n (pc := 19) X (j := 2) (i := 3) rfl rfl dX3_beatsBy_19 ?_
    refine J_iload (pc := 20) X (j := 4) rfl dX3_beatsBy_20 ?_
    refine J_iconst (pc := 22) X (v := 1) (by decide) dX3_beatsBy_22 ?_
    refine J_iadd (pc := 23) X dX3_beatsBy_23 ?_
    obtain ⟨v3, h2, hc, hq⟩ := bnd_e hq
    refine J_callV (pc := 24) (as := [.inl x3, .inl (x5 + 1)]) (st := []) (st2 := [.inl v3]) (r1 := (some (.inl v3), h2)) (h2 := h2) (ky := 1) X dX3_beatsBy_24 ca_X1_strikes ci_X1_strikes cs_X1_strikes ml_3_59 (by decide) (ly_8_2 lx1) rfl rfl (m_X1_strikes _ _ _ _ _ (ly_8_2 lx1) hc) rfl rfl (Nat.le_of_ble_eq_true rfl) rfl rfl ?_
    refine J_if_ne (pc := 27) (tgt := 47) X dX3_beatsBy_27 rfl (fun c4 => ?_) (fun c4 => ?_)
    · have hq := ite_f hq c4
      refine J_iinc (pc := 47) X (j := 4) (v := 1) (L' := [(5, .inl (x5 + 1)), (1, .inr (.inr x1)), (2, .inr (.inr x2)), (3, .inl x3), (4, .inl x4)]) rfl (by decide) (by decide) rfl dX3_beatsBy_47 ?_
      refine J_goto (pc := 50) X (tgt := 6) dX3_beatsBy_50 rfl ?_
      refine J_sub [1, 2, 3, 4, 0] rfl ?_
      exact hself _ _ _ _ hq
    · have hq := ite_t hq c4
      refine J_iload (pc := 30) X (j := 3) rfl dX3_beatsBy_30 ?_
      refine J_aload_n (pc := 32) X (j := 0) (i := 1) rfl rfl dX3_beatsBy_32 ?_
      refine J_getF (pc := 33) X (b := x1 + 5) lx1 fl_3_88 rfl dX3_beatsBy_33 ?_
      refine J_aload_n (pc := 36) X (j := 1) (i := 2) rfl rfl dX3_beatsBy_36 ?_
      refine J_getF (pc := 37) X (b := x2 + 1) lx2 fl_3_65 rfl dX3_beatsBy_37 ?_
      refine J_iload (pc := 40) X (j := 4) rfl dX3_beatsBy_40 ?_
      obtain ⟨g5, hq⟩ := gd hq
      refine J_iaload (pc := 42) X (ly_5_1 lx2) g5 dX3_beatsBy_42 ?_
      obtain ⟨g6, hq⟩ := gd hq
      refine J_iaload (pc := 43) X (ly_8_5 lx1) g6 dX3_beatsBy_43 ?_
      refine J_iadd (pc := 44) X dX3_beatsBy_44 ?_
      refine J_ltI hq (fun v7 hq => ?_)
      refine J_istore (pc := 45) X (L' := [(4, .inl v7), (1, .inr (.inr x1)), (2, .inr (.inr x2)), (3, .inl x3), (5, .inl x5)]) (by decide) rfl dX3_beatsBy_45 ?_
      refine J_iinc (pc := 47) X (j := 4) (v := 1) (L' := [(5, .inl (x5 + 1)), (4, .inl v7), (1, .inr (.inr x1)), (2, .inr (.inr x2)), (3, .inl x3)]) rfl (by decide) (by decide) rfl dX3_beatsBy_47 ?_
      refine J_goto (pc := 50) X (tgt := 6) dX3_beatsBy_50 rfl ?_
      refine J_sub [2, 3, 4, 1, 0] rfl ?_
      exact hself _ _ _ _ hq
theorem tL_X3_beatsBy_6 {κ : Kx} (X : OK κ cX3_beatsBy 6 (some .int) "StruckWords$Judge" 2) (x1 : Nat) (x2 : Nat) (x3 : Int32) (k53 : Int32 → Hp → Option (Int32 × Hp)) (N : Nat) (x4 : Int32) (x5 : Int32) (h : Hp) (q : (Int32 × Hp)) (lx1 : lay x1 = some (.inl 8)) (lx2 : lay x2 = some (.inl 5)) (hk53 : ∀ (x4 : Int32) (h : Hp) (q : (Int32 × Hp)), k53 x4 h = some q → J κ 53 [(4, .inl x4)] [] h (some (.inl q.1), q.2)) (hq : itr3 (F_X3_beatsBy_6 x1 x2 x3 k53) N x4 x5 h = some q) : J κ 6 [(1, .inr (.inr x1)), (2, .inr (.inr x2)), (3, .inl x3), (4, .inl x4), (5, .inl x5)] [] h (some (.inl q.1), q.2) :=
  itr3_ind (fun self hs x4 x5 h q hq => tF_X3_beatsBy_6 X x1 x2 x3 k53 self x4 x5 h q lx1 lx2 hk53 hs hq) N x4 x5 h q hq
theorem tf_X3_beatsBy {κ : Kx} (X : OK κ cX3_beatsBy 6 (some .int) "StruckWords$Judge" 2) (x1 : Nat) (x2 : Nat) (x3 : Int32) (h : Hp) (q : (Int32 × Hp)) (lx1 : lay x1 = some (.inl 8)) (lx2 : lay x2 = some (.inl 5)) (hq : f_X3_beatsBy x1 x2 x3 h = some q) : J κ 0 [(0, .inr (.inr 113)), (1, .inr (.inr x1)), (2, .inr (.inr x2)), (3, .inl x3)] [] h (some (.inl q.1), q.2) := by
  delta f_X3_beatsBy at hq
  refine J_iconst (pc := 0) X (v := 0) (by decide) dX3_beatsBy_0 ?_
  refine J_istore (pc := 1) X (L' := [(4, .inl 0), (0, .inr (.inr 113)), (1, .inr (.inr x1)), (2, .inr (.inr x2)), (3, .inl x3)]) (by decide) rfl dX3_beatsBy_1 ?_
  refine J_iconst (pc := 3) X (v := 0) (by decide) dX3_beatsBy_3 ?_
  refine J_istore (pc := 4) X (L' := [(5, .inl 0), (4, .inl 0), (0, .inr (.inr 113)), (1, .inr (.inr x1)), (2, .inr (.inr x2)), (3, .inl x3)]) (by decide) rfl dX3_beatsBy_4 ?_
  refine J_sub [3, 4, 5, 1, 0] rfl ?_
  refine tL_X3_beatsBy_6 X _ _ _ _ N0 _ _ _ _ lx1 lx2 ?_ hq
  · intro v9 h8 q hq
    refine J_iload (pc := 53) X (j := 0) rfl dX3_beatsBy_53 ?_
    obtain rfl := Option.some.inj hq
    exact J_iret (pc := 55) X dX3_beatsBy_55
theorem m_X3_beatsBy (x1 : Nat) (x2 : Nat) (x3 : Int32) (h : Hp) (q : (Int32 × Hp)) (lx1 : lay x1 = some (.inl 8)) (lx2 : lay x2 = some (.inl 5)) (hq : f_X3_beatsBy x1 x2 x3 h = some q) : ∀ l w, CT l w yX3_beatsBy cX3_beatsBy 6 (some .int) 2 [.inr (.inr 113), .inr (.inr x1), .inr (.inr x2), .inl x3] h (some (.inl q.1), q.2) :=
  CT_of (L0 := [(0, .inr (.inr 113)), (1, .inr (.inr x1)), (2, .inr (.inr x2)), (3, .inl x3)]) (by decide) rfl (Nat.le_of_ble_eq_true rfl) (fun κ X => tf_X3_beatsBy X x1 x2 x3 h q lx1 lx2 hq)
theorem tF_J7_fill_d0a16_6 {κ : Kx} (X : OK κ cJ7_fill_d0a16 5 (none) "java/util/Arrays" 1) (x0 : Nat) (x1 : Int64) (x4 : Int32) (k22 : Hp → Option Hp) (self : Int32 → Hp → Option Hp) (x3 : Int32) (h : Hp) (q : Hp) (lx0 : lay x0 = some (.inr (1, (aln x0)))) (hk22 : ∀ (h : Hp) (q : Hp), k22 h = some q → J κ 22 [] [] h (none, q)) (hself : ∀ (x3 : Int32) (h : Hp) (q : Hp), self x3 h = some q → J κ 6 [(0, .inr (.inr x0)), (1, .inr (.inl x1)), (3, .inl x3), (4, .inl x4)] [] h (none, q)) (hq : F_J7_fill_d0a16_6 x0 x1 x4 k22 self x3 h = some q) : J κ 6 [(0, .inr (.inr x0)), (1, .inr (.inl x1)), (3, .inl x3), (4, .inl x4)] [] h (none, q) := by
  delta F_J7_fill_d0a16_6 at hq
  refine J_iload_n (pc := 6) X (j := 2) (i := 3) rfl rfl dJ7_fill_d0a16_6 ?_
  refine J_iload (pc := 7) X (j := 3) rfl dJ7_fill_d0a16_7 ?_
  refine J_icmp_ge (pc := 9) (tgt := 22) X dJ7_fill_d0a16_9 rfl (fun c2 => ?_) (fun c2 => ?_)
  · have hq := ite_t hq c2
    refine J_sub [] rfl ?_
    exact hk22 _ _ hq
  · have hq := ite_f hq c2
    refine J_aload_n (pc := 12) X (j := 0) (i := 0) rfl rfl dJ7_fill_d0a16_12 ?_
    refine J_iload_n (pc := 13) X (j := 2) (i := 3) rfl rfl dJ7_fill_d0a16_13 ?_
    refine J_lload_n (pc := 14) X (j := 1) (i := 1) rfl rfl dJ7_fill_d0a16_14 ?_
    obtain ⟨g3, hq⟩ := gd hq
    refine J_lastore (pc := 15) X lx0 g3 dJ7_fill_d0a16_15 ?_
    refine J_ltH hq (fun h4 hq => ?_)
    refine J_iinc (pc := 16) X (j := 2) (v := 1) (L' := [(3, .inl (x3 + 1)), (0, .inr (.inr x0)), (1, .inr (.inl x1)), (4, .inl x4)]) rfl (by decide) (by decide) rfl dJ7_fill_d0a16_16 ?_
    refine J_goto (pc := 19) X (tgt := 6) dJ7_fill_d0a16_19 rfl ?_
    refine J_sub [1, 2, 0, 3] rfl ?_
    exact hself _ _ _ hq
theorem tL_J7_fill_d0a16_6 {κ : Kx} (X : OK κ cJ7_fill_d0a16 5 (none) "java/util/Arrays" 1) (x0 : Nat) (x1 : Int64) (x4 : Int32) (k22 : Hp → Option Hp) (N : Nat) (x3 : Int32) (h : Hp) (q : Hp) (lx0 : lay x0 = some (.inr (1, (aln x0)))) (hk22 : ∀ (h : Hp) (q : Hp), k22 h = some q → J κ 22 [] [] h (none, q)) (hq : itr2 (F_J7_fill_d0a16_6 x0 x1 x4 k22) N x3 h = some q) : J κ 6 [(0, .inr (.inr x0)), (1, .inr (.inl x1)), (3, .inl x3), (4, .inl x4)] [] h (none, q) :=
  itr2_ind (fun self hs x3 h q hq => tF_J7_fill_d0a16_6 X x0 x1 x4 k22 self x3 h q lx0 hk22 hs hq) N x3 h q hq
theorem tf_J7_fill_d0a16 {κ : Kx} (X : OK κ cJ7_fill_d0a16 5 (none) "java/util/Arrays" 1) (x0 : Nat) (x1 : Int64) (h : Hp) (q : Hp) (lx0 : lay x0 = some (.inr (1, (aln x0)))) (hq : f_J7_fill_d0a16 x0 x1 h = some q) : J κ 0 [(0, .inr (.inr x0)), (1, .inr (.inl x1))] [] h (none, q) := by
  delta f_J7_fill_d0a16 at hq
  refine J_iconst (pc := 0) X (v := 0) (by decide) dJ7_fill_d0a16_0 ?_
  refine J_istore_n (pc := 1) X (L' := [(3, .inl 0), (0, .inr (.inr x0)), (1, .inr (.inl x1))]) (i := 3) rfl (by decide) rfl dJ7_fill_d0a16_1 ?_
  refine J_aload_n (pc := 2) X (j := 1) (i := 0) rfl rfl dJ7_fill_d0a16_2 ?_
  refine J_alen (pc := 3) X (v := Int32.ofNat (aln x0)) lx0 (by decide) rfl dJ7_fill_d0a16_3 ?_
  refine J_ltI hq (fun v1 hq => ?_)
  refine J_istore (pc := 4) X (L' := [(4, .inl v1), (3, .inl 0), (0, .inr (.inr x0)), (1, .inr (.inl x1))]) (by decide) rfl dJ7_fill_d0a16_4 ?_
  refine J_sub [2, 3, 1, 0] rfl ?_
  refine tL_J7_fill_d0a16_6 X _ _ _ _ N0 _ _ _ lx0 ?_ hq
  · intro h5 q hq
    obtain rfl := Option.some.inj hq
    exact J_vret (pc := 22) X dJ7_fill_d0a16_22
theorem m_J7_fill_d0a16 (x0 : Nat) (x1 : Int64) (h : Hp) (q : Hp) (lx0 : lay x0 = some (.inr (1, (aln x0)))) (hq : f_J7_fill_d0a16 x0 x1 h = some q) : ∀ l w, CT l w yJ7_fill_d0a16 cJ7_fill_d0a16 5 (none) 1 [.inr (.inr x0), .inr (.inl x1)] h (none, q) :=
  CT_of (L0 := [(0, .inr (.inr x0)), (1, .inr (.inl x1))]) (by decide) rfl (Nat.le_of_ble_eq_true rfl) (fun κ X => tf_J7_fill_d0a16 X x0 x1 h q lx0 hq)
theorem tf_X10_mayEnd {κ : Kx} (X : OK κ cX10_mayEnd 2 (some .boolean) "StruckWords$Tongue" 1) (x0 : Nat) (x1 : Int32) (h : Hp) (q : (Int32 × Hp)) (lx0 : lay x0 = some (.inl 8)) (hq : f_X10_mayEnd x0 x1 h = some q) : J κ 0 [(0, .inr (.inr x0)), (1, .inl x1)] [] h (some (.inl q.1), q.2) := by
  delta f_X10_mayEnd at hq
  refine J_aload_n (pc := 0) X (j := 0) (i := 0) rfl rfl dX10_mayEnd_0 ?_
  refine J_getL (pc := 1) X lx0 fl_10_73 dX10_mayEnd_1 ?_
  refine J_bipush (pc := 4) X (v := 8) (by decide) dX10_mayEnd_4 ?_
  refine J_iload_n (pc := 6) X (j := 1) (i := 1) rfl rfl dX10_mayEnd_6 ?_
  refine J_imul (pc := 7) X dX10_mayEnd_7 ?_
  refine J_lushr (pc := 8) X dX10_mayEnd_8 ?_
  refine J_lconst (pc := 9) X (v := 1) (by decide) dX10_mayEnd_9 ?_
  refine J_land (pc := 10) X dX10_mayEnd_10 ?_
  refine J_lconst (pc := 11) X (v := 0) (by decide) dX10_mayEnd_11 ?_
  refine J_lcmp (pc := 12) X dX10_mayEnd_12 ?_
  refine J_if_eq (pc := 13) (tgt := 20) X dX10_mayEnd_13 rfl (fun c1 => ?_) (fun c1 => ?_)
  · have hq := ite_t hq c1
    refine J_iconst (pc := 20) X (v := 0) (by decide) dX10_mayEnd_20 ?_
    obtain rfl := Option.some.inj hq
    exact J_zret (pc := 21) X (by decide) dX10_mayEnd_21
  · have hq := ite_f hq c1
    refine J_iconst (pc := 16) X (v := 1) (by decide) dX10_mayEnd_16 ?_
    refine J_goto (pc := 17) X (tgt := 21) dX10_mayEnd_17 rfl ?_
    obtain rfl := Option.some.inj hq
    exact J_zret (pc := 21) X (by decide) dX10_mayEnd_21
theorem m_X10_mayEnd (x0 : Nat) (x1 : Int32) (h : Hp) (q : (Int32 × Hp)) (lx0 : lay x0 = some (.inl 8)) (hq : f_X10_mayEnd x0 x1 h = some q) : ∀ l w, CT l w yX10_mayEnd cX10_mayEnd 2 (some .boolean) 1 [.inr (.inr x0), .inl x1] h (some (.inl q.1), q.2) :=
  CT_of (L0 := [(0, .inr (.inr x0)), (1, .inl x1)]) (by decide) rfl (Nat.le_of_ble_eq_true rfl) (fun κ X => tf_X10_mayEnd X x0 x1 h q lx0 hq)
theorem tf_X10_mayFollow {κ : Kx} (X : OK κ cX10_mayFollow 3 (some .boolean) "StruckWords$Tongue" 1) (x0 : Nat) (x1 : Int32) (x2 : Int32) (h : Hp) (q : (Int32 × Hp)) (lx0 : lay x0 = some (.inl 8)) (hq : f_X10_mayFollow x0 x1 x2 h = some q) : J κ 0 [(0, .inr (.inr x0)), (1, .inl x1), (2, .inl x2)] [] h (some (.inl q.1), q.2) := by
  delta f_X10_mayFollow at hq
  refine J_aload_n (pc := 0) X (j := 0) (i := 0) rfl rfl dX10_mayFollow_0 ?_
  refine J_getF (pc := 1) X (b := x0 + 4) lx0 fl_10_25 rfl dX10_mayFollow_1 ?_
  refine J_iload_n (pc := 4) X (j := 2) (i := 2) rfl rfl dX10_mayFollow_4 ?_
  obtain ⟨g1, hq⟩ := gd hq
  refine J_laload (pc := 5) X (ly_8_4 lx0) g1 dX10_mayFollow_5 ?_
  refine J_bipush (pc := 6) X (v := 8) (by decide) dX10_mayFollow_6 ?_
  refine J_iload_n (pc := 8) X (j := 1) (i := 1) rfl rfl dX10_mayFollow_8 ?_
  refine J_imul (pc := 9) X dX10_mayFollow_9 ?_
  refine J_lushr (pc := 10) X dX10_mayFollow_10 ?_
  refine J_lconst (pc := 11) X (v := 1) (by decide) dX10_mayFollow_11 ?_
  refine J_land (pc := 12) X dX10_mayFollow_12 ?_
  refine J_lconst (pc := 13) X (v := 0) (by decide) dX10_mayFollow_13 ?_
  refine J_lcmp (pc := 14) X dX10_mayFollow_14 ?_
  refine J_if_eq (pc := 15) (tgt := 22) X dX10_mayFollow_15 rfl (fun c2 => ?_) (fun c2 => ?_)
  · have hq := ite_t hq c2
    refine J_iconst (pc := 22) X (v := 0) (by decide) dX10_mayFollow_22 ?_
    obtain rfl := Option.some.inj hq
    exact J_zret (pc := 23) X (by decide) dX10_mayFollow_23
  · have hq := ite_f hq c2
    refine J_iconst (pc := 18) X (v := 1) (by decide) dX10_mayFollow_18 ?_
    refine J_goto (pc := 19) X (tgt := 23) dX10_mayFollow_19 rfl ?_
    obtain rfl := Option.some.inj hq
    exact J_zret (pc := 23) X (by decide) dX10_mayFollow_23
theorem m_X10_mayFollow (x0 : Nat) (x1 : Int32) (x2 : Int32) (h : Hp) (q : (Int32 × Hp)) (lx0 : lay x0 = some (.inl 8)) (hq : f_X10_mayFollow x0 x1 x2 h = some q) : ∀ l w, CT l w yX10_mayFollow cX10_mayFollow 3 (some .boolean) 1 [.inr (.inr x0), .inl x1, .inl x2] h (some (.inl q.1), q.2) :=
  CT_of (L0 := [(0, .inr (.inr x0)), (1, .inl x1), (2, .inl x2)]) (by decide) rfl (Nat.le_of_ble_eq_true rfl) (fun κ X => tf_X10_mayFollow X x0 x1 x2 h q lx0 hq)
theorem tf_X10_readsAs {κ : Kx} (X : OK κ cX10_readsAs 3 (some .boolean) "StruckWords$Tongue" 1) (x0 : Nat) (x1 : Int32) (x2 : Int32) (h : Hp) (q : (Int32 × Hp)) (lx0 : lay x0 = some (.inl 8)) (hq : f_X10_readsAs x0 x1 x2 h = some q) : J κ 0 [(0, .inr (.inr x0)), (1, .inl x1), (2, .inl x2)] [] h (some (.inl q.1), q.2) := by
  delta f_X10_readsAs at hq
  refine J_aload_n (pc := 0) X (j := 0) (i := 0) rfl rfl dX10_readsAs_0 ?_
  refine J_getF (pc := 1) X (b := x0 + 8) lx0 fl_10_38 rfl dX10_readsAs_1 ?_
  refine J_iload_n (pc := 4) X (j := 1) (i := 1) rfl rfl dX10_readsAs_4 ?_
  obtain ⟨g1, hq⟩ := gd hq
  refine J_iaload (pc := 5) X (ly_8_8 lx0) g1 dX10_readsAs_5 ?_
  refine J_iload_n (pc := 6) X (j := 2) (i := 2) rfl rfl dX10_readsAs_6 ?_
  refine J_ishr (pc := 7) X dX10_readsAs_7 ?_
  refine J_iconst (pc := 8) X (v := 1) (by decide) dX10_readsAs_8 ?_
  refine J_iand (pc := 9) X dX10_readsAs_9 ?_
  refine J_if_eq (pc := 10) (tgt := 17) X dX10_readsAs_10 rfl (fun c2 => ?_) (fun c2 => ?_)
  · have hq := ite_t hq c2
    refine J_iconst (pc := 17) X (v := 0) (by decide) dX10_readsAs_17 ?_
    obtain rfl := Option.some.inj hq
    exact J_zret (pc := 18) X (by decide) dX10_readsAs_18
  · have hq := ite_f hq c2
    refine J_iconst (pc := 13) X (v := 1) (by decide) dX10_readsAs_13 ?_
    refine J_goto (pc := 14) X (tgt := 18) dX10_readsAs_14 rfl ?_
    obtain rfl := Option.some.inj hq
    exact J_zret (pc := 18) X (by decide) dX10_readsAs_18
theorem m_X10_readsAs (x0 : Nat) (x1 : Int32) (x2 : Int32) (h : Hp) (q : (Int32 × Hp)) (lx0 : lay x0 = some (.inl 8)) (hq : f_X10_readsAs x0 x1 x2 h = some q) : ∀ l w, CT l w yX10_readsAs cX10_readsAs 3 (some .boolean) 1 [.inr (.inr x0), .inl x1, .inl x2] h (some (.inl q.1), q.2) :=
  CT_of (L0 := [(0, .inr (.inr x0)), (1, .inl x1), (2, .inl x2)]) (by decide) rfl (Nat.le_of_ble_eq_true rfl) (fun κ X => tf_X10_readsAs X x0 x1 x2 h q lx0 hq)
theorem tB_X3_countWith_64 {κ : Kx} (X : OK κ cX3_countWith 5 (none) "StruckWords$Judge" 3) (x1 : Nat) (x2 : Int32) (x3 : Int32) (k72 : Hp → Option Hp) (self : Int32 → Hp → Option Hp) (x4 : Int32) (t0 : Int64) (t1 : Int64) (t2 : Int32) (h : Hp) (q : Hp) (lx1 : lay x1 = some (.inl 8)) (hk72 : ∀ (h : Hp) (q : Hp), k72 h = some q → J κ 72 [(0, .inr (.inr 113)), (1, .inr (.inr x1)), (2, .inl x2), (3, .inl x3)] [] h (none, q)) (hself : ∀ (x4 : Int32) (h : Hp) (q : Hp), self x4 h = some q → J κ 21 [(0, .inr (.inr 113)), (1, .inr (.inr x1)), (2, .inl x2), (3, .inl x3), (4, .inl x4)] [] h (none, q)) (hq : B_X3_countWith_64 x1 x2 x3 k72 self x4 t0 t1 t2 h = some q) : J κ 64 [(0, .inr (.inr 113)), (1, .inr (.inr x1)), (2, .inl x2), (3, .inl x3), (4, .inl x4)] [.inr (.inl t0), .inr (.inl t1), .inl t2, .inr (.inr 117)] h (none, q) := by
  delta B_X3_countWith_64 at hq
  refine J_ladd (pc := 64) X dX3_countWith_64 ?_
  obtain ⟨g11, hq⟩ := gd hq
  refine J_lastore (pc := 65) X ly117 g11 dX3_countWith_65 ?_
  refine J_ltH hq (fun h12 hq => ?_)
  refine J_iinc (pc := 66) X (j := 4) (v := 1) (L' := [(4, .inl (x4 + 1)), (0, .inr (.inr 113)), (1, .inr (.inr x1)), (2, .inl x2), (3, .inl x3)]) rfl (by decide) (by decide) rfl dX3_countWith_66 ?_
  refine J_goto (pc := 69) X (tgt := 21) dX3_countWith_69 rfl ?_
  refine J_sub [1, 2, 3, 4, 0] rfl ?_
  exact hself _ _ _ hq
theorem tF_X3_countWith_21 {κ : Kx} (X : OK κ cX3_countWith 5 (none) "StruckWords$Judge" 3) (x1 : Nat) (x2 : Int32) (x3 : Int32) (k72 : Hp → Option Hp) (self : Int32 → Hp → Option Hp) (x4 : Int32) (h : Hp) (q : Hp) (lx1 : lay x1 = some (.inl 8)) (hk72 : ∀ (h : Hp) (q : Hp), k72 h = some q → J κ 72 [(0, .inr (.inr 113)), (1, .inr (.inr x1)), (2, .inl x2), (3, .inl x3)] [] h (none, q)) (hself : ∀ (x4 : Int32) (h : Hp) (q : Hp), self x4 h = some q → J κ 21 [(0, .inr (.inr 113)), (1, .inr (.inr x1)), (2, .inl x2), (3, .inl x3), (4, .inl x4)] [] h (none, q)) (hq : F_X3_countWith_21 x1 x2 x3 k72 self x4 h = some q) : J κ 21 [(0, .inr (.inr 113)), (1, .inr (.inr x1)), (2, .inl x2), (3, .inl x3), (4, .inl x4)] [] h (none, q) := by
  delta F_X3_countWith_21 at hq
  refine J_iload (pc := 21) X (j := 4) rfl dX3_countWith_21 ?_
  refine J_iconst (pc := 23) X (v := 5) (by decide) dX3_countWith_23 ?_
  refine J_icmp_gt (pc := 24) (tgt := 72) X dX3_countWith_24 rfl (fun c3 => ?_) (fun c3 => ?_)
  · have hq := ite_t hq c3
    refine J_sub [0, 1, 2, 3] rfl ?_
    exact hk72 _ _ hq
  · have hq := ite_f hq c3
    refine J_aload_n (pc := 27) X (j := 1) (i := 1) rfl rfl dX3_countWith_27 ?_
    refine J_iload_n (pc := 28) X (j := 2) (i := 2) rfl rfl dX3_countWith_28 ?_
    refine J_iload_n (pc := 29) X (j := 3) (i := 3) rfl rfl dX3_countWith_29 ?_
    obtain ⟨v5, h4, hc, hq⟩ := bnd_e hq
    refine J_callV (pc := 30) (as := [.inl x2, .inl x3]) (st := []) (st2 := [.inl v5]) (r1 := (some (.inl v5), h4)) (h2 := h4) (ky := 1) X dX3_countWith_30 ca_X10_readsAs ci_X10_readsAs cs_X10_readsAs ml_3_108 (by decide) lx1 rfl rfl (m_X10_readsAs _ _ _ _ _ lx1 hc) rfl rfl (Nat.le_of_ble_eq_true rfl) rfl rfl ?_
    refine J_if_eq (pc := 33) (tgt := 72) X dX3_countWith_33 rfl (fun c6 => ?_) (fun c6 => ?_)
    · have hq := ite_t hq c6
      refine J_sub [0, 1, 2, 3] rfl ?_
      exact hk72 _ _ hq
    · have hq := ite_f hq c6
      refine J_aload_n (pc := 36) X (j := 0) (i := 0) rfl rfl dX3_countWith_36 ?_
      refine J_getF (pc := 37) X (b := 117) ly113 fl_3_24 rfl dX3_countWith_37 ?_
      refine J_iload_n (pc := 40) X (j := 3) (i := 3) rfl rfl dX3_countWith_40 ?_
      refine J_dup2 (pc := 41) X rfl rfl dX3_countWith_41 ?_
      obtain ⟨g7, hq⟩ := gd hq
      refine J_laload (pc := 42) X ly117 g7 dX3_countWith_42 ?_
      refine J_aload_n (pc := 43) X (j := 1) (i := 1) rfl rfl dX3_countWith_43 ?_
      refine J_iload (pc := 44) X (j := 4) rfl dX3_countWith_44 ?_
      refine J_iload_n (pc := 46) X (j := 3) (i := 3) rfl rfl dX3_countWith_46 ?_
      obtain ⟨v9, h8, hc, hq⟩ := bnd_e hq
      refine J_callV (pc := 47) (as := [.inl x4, .inl x3]) (st := [.inr (.inl (h4.2.1 117 (x3.toNatClampNeg))), .inl x3, .inr (.inr 117)]) (st2 := [.inl v9, .inr (.inl (h4.2.1 117 (x3.toNatClampNeg))), .inl x3, .inr (.inr 117)]) (r1 := (some (.inl v9), h8)) (h2 := h8) (ky := 1) X dX3_countWith_47 ca_X10_mayFollow ci_X10_mayFollow cs_X10_mayFollow ml_3_111 (by decide) lx1 rfl rfl (m_X10_mayFollow _ _ _ _ _ lx1 hc) rfl rfl (Nat.le_of_ble_eq_true rfl) rfl rfl ?_
      refine J_if_eq (pc := 50) (tgt := 63) X dX3_countWith_50 rfl (fun c10 => ?_) (fun c10 => ?_)
      · have hq := ite_t hq c10
        refine J_lconst (pc := 63) X (v := 0) (by decide) dX3_countWith_63 ?_
        exact tB_X3_countWith_64 X _ _ _ _ _ _ _ _ _ _ _ lx1 hk72 hself hq
      · have hq := ite_f hq c10
        refine J_aload_n (pc := 53) X (j := 0) (i := 0) rfl rfl dX3_countWith_53 ?_
        refine J_getF (pc := 54) X (b := 116) ly113 fl_3_20 rfl dX3_countWith_54 ?_
        refine J_iload (pc := 57) X (j := 4) rfl dX3_countWith_57 ?_
        obtain ⟨g13, hq⟩ := gd hq
        refine J_laload (pc := 59) X ly116 g13 dX3_countWith_59 ?_
        refine J_goto (pc := 60) X (tgt := 64) dX3_countWith_60 rfl ?_
        exact tB_X3_countWith_64 X _ _ _ _ _ _ _ _ _ _ _ lx1 hk72 hself hq
theorem tL_X3_countWith_21 {κ : Kx} (X : OK κ cX3_countWith 5 (none) "StruckWords$Judge" 3) (x1 : Nat) (x2 : Int32) (x3 : Int32) (k72 : Hp → Option Hp) (N : Nat) (x4 : Int32) (h : Hp) (q : Hp) (lx1 : lay x1 = some (.inl 8)) (hk72 : ∀ (h : Hp) (q : Hp), k72 h = some q → J κ 72 [(0, .inr (.inr 113)), (1, .inr (.inr x1)), (2, .inl x2), (3, .inl x3)] [] h (none, q)) (hq : itr2 (F_X3_countWith_21 x1 x2 x3 k72) N x4 h = some q) : J κ 21 [(0, .inr (.inr 113)), (1, .inr (.inr x1)), (2, .inl x2), (3, .inl x3), (4, .inl x4)] [] h (none, q) :=
  itr2_ind (fun self hs x4 h q hq => tF_X3_countWith_21 X x1 x2 x3 k72 self x4 h q lx1 hk72 hs hq) N x4 h q hq
theorem tF_X3_countWith_10 {κ : Kx} (X : OK κ cX3_countWith 5 (none) "StruckWords$Judge" 3) (x1 : Nat) (x2 : Int32) (k78 : Hp → Option Hp) (self : Int32 → Hp → Option Hp) (x3 : Int32) (h : Hp) (q : Hp) (lx1 : lay x1 = some (.inl 8)) (hk78 : ∀ (h : Hp) (q : Hp), k78 h = some q → J κ 78 [(0, .inr (.inr 113))] [] h (none, q)) (hself : ∀ (x3 : Int32) (h : Hp) (q : Hp), self x3 h = some q → J κ 10 [(0, .inr (.inr 113)), (1, .inr (.inr x1)), (2, .inl x2), (3, .inl x3)] [] h (none, q)) (hq : F_X3_countWith_10 x1 x2 k78 self x3 h = some q) : J κ 10 [(0, .inr (.inr 113)), (1, .inr (.inr x1)), (2, .inl x2), (3, .inl x3)] [] h (none, q) := by
  delta F_X3_countWith_10 at hq
  refine J_iload_n (pc := 10) X (j := 3) (i := 3) rfl rfl dX3_countWith_10 ?_
  refine J_aload_n (pc := 11) X (j := 1) (i := 1) rfl rfl dX3_countWith_11 ?_
  refine J_getI (pc := 12) X lx1 fl_3_101 dX3_countWith_12 ?_
  refine J_icmp_ge (pc := 15) (tgt := 78) X dX3_countWith_15 rfl (fun c2 => ?_) (fun c2 => ?_)
  · have hq := ite_t hq c2
    refine J_sub [0] rfl ?_
    exact hk78 _ _ hq
  · have hq := ite_f hq c2
    refine J_iconst (pc := 18) X (v := 0) (by decide) dX3_countWith_18 ?_
    refine J_istore (pc := 19) X (L' := [(4, .inl 0), (0, .inr (.inr 113)), (1, .inr (.inr x1)), (2, .inl x2), (3, .inl x3)]) (by decide) rfl dX3_countWith_19 ?_
    refine J_sub [1, 2, 3, 4, 0] rfl ?_
    refine tL_X3_countWith_21 X _ _ _ _ N0 _ _ _ lx1 ?_ hq
    · intro h14 q hq
      refine J_iinc (pc := 72) X (j := 3) (v := 1) (L' := [(3, .inl (x3 + 1)), (0, .inr (.inr 113)), (1, .inr (.inr x1)), (2, .inl x2)]) rfl (by decide) (by decide) rfl dX3_countWith_72 ?_
      refine J_goto (pc := 75) X (tgt := 10) dX3_countWith_75 rfl ?_
      refine J_sub [1, 2, 3, 0] rfl ?_
      exact hself _ _ _ hq
theorem tL_X3_countWith_10 {κ : Kx} (X : OK κ cX3_countWith 5 (none) "StruckWords$Judge" 3) (x1 : Nat) (x2 : Int32) (k78 : Hp → Option Hp) (N : Nat) (x3 : Int32) (h : Hp) (q : Hp) (lx1 : lay x1 = some (.inl 8)) (hk78 : ∀ (h : Hp) (q : Hp), k78 h = some q → J κ 78 [(0, .inr (.inr 113))] [] h (none, q)) (hq : itr2 (F_X3_countWith_10 x1 x2 k78) N x3 h = some q) : J κ 10 [(0, .inr (.inr 113)), (1, .inr (.inr x1)), (2, .inl x2), (3, .inl x3)] [] h (none, q) :=
  itr2_ind (fun self hs x3 h q hq => tF_X3_countWith_10 X x1 x2 k78 self x3 h q lx1 hk78 hs hq) N x3 h q hq
theorem tf_X3_countWith {κ : Kx} (X : OK κ cX3_countWith 5 (none) "StruckWords$Judge" 3) (x1 : Nat) (x2 : Int32) (h : Hp) (q : Hp) (lx1 : lay x1 = some (.inl 8)) (hq : f_X3_countWith x1 x2 h = some q) : J κ 0 [(0, .inr (.inr 113)), (1, .inr (.inr x1)), (2, .inl x2)] [] h (none, q) := by
  delta f_X3_countWith at hq
  refine J_aload_n (pc := 0) X (j := 0) (i := 0) rfl rfl dX3_countWith_0 ?_
  refine J_getF (pc := 1) X (b := 117) ly113 fl_3_24 rfl dX3_countWith_1 ?_
  refine J_lconst (pc := 4) X (v := 0) (by decide) dX3_countWith_4 ?_
  obtain ⟨h1, hc, hq⟩ := bnv_e hq
  refine J_callS (pc := 5) (as := [.inr (.inr 117), .inr (.inl 0)]) (st := []) (st2 := []) (r1 := (none, h1)) (h2 := h1) (ky := 1) X dX3_countWith_5 ca_J7_fill_d0a16 cz_J7_fill_d0a16 ml_3_91 (by decide) (m_J7_fill_d0a16 _ _ _ _ (aln_of ly117) hc) rfl rfl (Nat.le_of_ble_eq_true rfl) rfl rfl ?_
  refine J_iconst (pc := 8) X (v := 0) (by decide) dX3_countWith_8 ?_
  refine J_istore_n (pc := 9) X (L' := [(3, .inl 0), (0, .inr (.inr 113)), (1, .inr (.inr x1)), (2, .inl x2)]) (i := 3) rfl (by decide) rfl dX3_countWith_9 ?_
  refine J_sub [1, 2, 3, 0] rfl ?_
  refine tL_X3_countWith_10 X _ _ _ N0 _ _ _ lx1 ?_ hq
  · intro h15 q hq
    refine J_aload_n (pc := 78) X (j := 0) (i := 0) rfl rfl dX3_countWith_78 ?_
    refine J_getF (pc := 79) X (b := 117) ly113 fl_3_24 rfl dX3_countWith_79 ?_
    refine J_iconst (pc := 82) X (v := 0) (by decide) dX3_countWith_82 ?_
    refine J_aload_n (pc := 83) X (j := 0) (i := 0) rfl rfl dX3_countWith_83 ?_
    refine J_getF (pc := 84) X (b := 116) ly113 fl_3_20 rfl dX3_countWith_84 ?_
    refine J_iconst (pc := 87) X (v := 0) (by decide) dX3_countWith_87 ?_
    refine J_aload_n (pc := 88) X (j := 0) (i := 0) rfl rfl dX3_countWith_88 ?_
    refine J_getF (pc := 89) X (b := 116) ly113 fl_3_20 rfl dX3_countWith_89 ?_
    refine J_alen (pc := 92) X (v := 6) ly116 (by decide) rfl dX3_countWith_92 ?_
    obtain ⟨g16, hq⟩ := gd hq
    refine J_copyL (pc := 93) X ml_3_114 ly117 ly116 g16 dX3_countWith_93 (Nat.le_of_ble_eq_true rfl) ?_
    refine J_ltH hq (fun h17 hq => ?_)
    obtain rfl := Option.some.inj hq
    exact J_vret (pc := 96) X dX3_countWith_96
theorem m_X3_countWith (x1 : Nat) (x2 : Int32) (h : Hp) (q : Hp) (lx1 : lay x1 = some (.inl 8)) (hq : f_X3_countWith x1 x2 h = some q) : ∀ l w, CT l w yX3_countWith cX3_countWith 5 (none) 3 [.inr (.inr 113), .inr (.inr x1), .inl x2] h (none, q) :=
  CT_of (L0 := [(0, .inr (.inr 113)), (1, .inr (.inr x1)), (2, .inl x2)]) (by decide) rfl (Nat.le_of_ble_eq_true rfl) (fun κ X => tf_X3_countWith X x1 x2 h q lx1 hq)
theorem tF_X3_countReadings_17 {κ : Kx} (X : OK κ cX3_countReadings 6 (some .long) "StruckWords$Judge" 4) (x1 : Nat) (x2 : Nat) (k42 : Hp → Option (Int64 × Hp)) (self : Int32 → Hp → Option (Int64 × Hp)) (x3 : Int32) (h : Hp) (q : (Int64 × Hp)) (lx1 : lay x1 = some (.inl 8)) (lx2 : lay x2 = some (.inl 5)) (hk42 : ∀ (h : Hp) (q : (Int64 × Hp)), k42 h = some q → J κ 42 [(0, .inr (.inr 113)), (1, .inr (.inr x1))] [] h (some (.inr (.inl q.1)), q.2)) (hself : ∀ (x3 : Int32) (h : Hp) (q : (Int64 × Hp)), self x3 h = some q → J κ 17 [(0, .inr (.inr 113)), (1, .inr (.inr x1)), (2, .inr (.inr x2)), (3, .inl x3)] [] h (some (.inr (.inl q.1)), q.2)) (hq : F_X3_countReadings_17 x1 x2 k42 self x3 h = some q) : J κ 17 [(0, .inr (.inr 113)), (1, .inr (.inr x1)), (2, .inr (.inr x2)), (3, .inl x3)] [] h (some (.inr (.inl q.1)), q.2) := by
  delta F_X3_countReadings_17 at hq
  refine J_iload_n (pc := 17) X (j := 3) (i := 3) rfl rfl dX3_countReadings_17 ?_
  refine J_aload_n (pc := 18) X (j := 2) (i := 2) rfl rfl dX3_countReadings_18 ?_
  refine J_getI (pc := 19) X lx2 fl_3_40 dX3_countReadings_19 ?_
  refine J_icmp_ge (pc := 22) (tgt := 42) X dX3_countReadings_22 rfl (fun c3 => ?_) (fun c3 => ?_)
  · have hq := ite_t hq c3
    refine J_sub [0, 1] rfl ?_
    exact hk42 _ _ hq
  · have hq := ite_f hq c3
    refine J_aload_n (pc := 25) X (j := 0) (i := 0) rfl rfl dX3_countReadings_25 ?_
    refine J_aload_n (pc := 26) X (j := 1) (i := 1) rfl rfl dX3_countReadings_26 ?_
    refine J_aload_n (pc := 27) X (j := 2) (i := 2) rfl rfl dX3_countReadings_27 ?_
    refine J_getF (pc := 28) X (b := x2 + 1) lx2 fl_3_65 rfl dX3_countReadings_28 ?_
    refine J_iload_n (pc := 31) X (j := 3) (i := 3) rfl rfl dX3_countReadings_31 ?_
    obtain ⟨g4, hq⟩ := gd hq
    refine J_iaload (pc := 32) X (ly_5_1 lx2) g4 dX3_countReadings_32 ?_
    obtain ⟨h5, hc, hq⟩ := bnv_e hq
    refine J_callV (pc := 33) (as := [.inr (.inr x1), .inl (h.1 (x2 + 1) (x3.toNatClampNeg))]) (st := []) (st2 := []) (r1 := (none, h5)) (h2 := h5) (ky := 3) X dX3_countReadings_33 ca_X3_countWith ci_X3_countWith cs_X3_countWith ml_3_97 (by decide) ly113 rfl rfl (m_X3_countWith _ _ _ _ lx1 hc) rfl rfl (Nat.le_of_ble_eq_true rfl) rfl rfl ?_
    refine J_iinc (pc := 36) X (j := 3) (v := 1) (L' := [(3, .inl (x3 + 1)), (0, .inr (.inr 113)), (1, .inr (.inr x1)), (2, .inr (.inr x2))]) rfl (by decide) (by decide) rfl dX3_countReadings_36 ?_
    refine J_goto (pc := 39) X (tgt := 17) dX3_countReadings_39 rfl ?_
    refine J_sub [1, 2, 3, 0] rfl ?_
    exact hself _ _ _ hq
theorem tL_X3_countReadings_17 {κ : Kx} (X : OK κ cX3_countReadings 6 (some .long) "StruckWords$Judge" 4) (x1 : Nat) (x2 : Nat) (k42 : Hp → Option (Int64 × Hp)) (N : Nat) (x3 : Int32) (h : Hp) (q : (Int64 × Hp)) (lx1 : lay x1 = some (.inl 8)) (lx2 : lay x2 = some (.inl 5)) (hk42 : ∀ (h : Hp) (q : (Int64 × Hp)), k42 h = some q → J κ 42 [(0, .inr (.inr 113)), (1, .inr (.inr x1))] [] h (some (.inr (.inl q.1)), q.2)) (hq : itr2 (F_X3_countReadings_17 x1 x2 k42) N x3 h = some q) : J κ 17 [(0, .inr (.inr 113)), (1, .inr (.inr x1)), (2, .inr (.inr x2)), (3, .inl x3)] [] h (some (.inr (.inl q.1)), q.2) :=
  itr2_ind (fun self hs x3 h q hq => tF_X3_countReadings_17 X x1 x2 k42 self x3 h q lx1 lx2 hk42 hs hq) N x3 h q hq
theorem tF_X3_countReadings_47 {κ : Kx} (X : OK κ cX3_countReadings 6 (some .long) "StruckWords$Judge" 4) (x1 : Nat) (k85 : Int64 → Hp → Option (Int64 × Hp)) (self : Int64 → Int32 → Hp → Option (Int64 × Hp)) (x3 : Int64) (x5 : Int32) (h : Hp) (q : (Int64 × Hp)) (lx1 : lay x1 = some (.inl 8)) (hk85 : ∀ (x3 : Int64) (h : Hp) (q : (Int64 × Hp)), k85 x3 h = some q → J κ 85 [(3, .inr (.inl x3))] [] h (some (.inr (.inl q.1)), q.2)) (hself : ∀ (x3 : Int64) (x5 : Int32) (h : Hp) (q : (Int64 × Hp)), self x3 x5 h = some q → J κ 47 [(0, .inr (.inr 113)), (1, .inr (.inr x1)), (3, .inr (.inl x3)), (5, .inl x5)] [] h (some (.inr (.inl q.1)), q.2)) (hq : F_X3_countReadings_47 x1 k85 self x3 x5 h = some q) : J κ 47 [(0, .inr (.inr 113)), (1, .inr (.inr x1)), (3, .inr (.inl x3)), (5, .inl x5)] [] h (some (.inr (.inl q.1)), q.2) := by
  delta F_X3_countReadings_47 at hq
  refine J_iload (pc := 47) X (j := 3) rfl dX3_countReadings_47 ?_
  refine J_aload_n (pc := 49) X (j := 1) (i := 1) rfl rfl dX3_countReadings_49 ?_
  refine J_getI (pc := 50) X lx1 fl_3_101 dX3_countReadings_50 ?_
  refine J_icmp_ge (pc := 53) (tgt := 85) X dX3_countReadings_53 rfl (fun c7 => ?_) (fun c7 => ?_)
  · have hq := ite_t hq c7
    refine J_sub [2] rfl ?_
    exact hk85 _ _ _ hq
  · have hq := ite_f hq c7
    refine J_lload_n (pc := 56) X (j := 2) (i := 3) rfl rfl dX3_countReadings_56 ?_
    refine J_aload_n (pc := 57) X (j := 1) (i := 1) rfl rfl dX3_countReadings_57 ?_
    refine J_iload (pc := 58) X (j := 3) rfl dX3_countReadings_58 ?_
    obtain ⟨v9, h8, hc, hq⟩ := bnd_e hq
    refine J_callV (pc := 60) (as := [.inl x5]) (st := [.inr (.inl x3)]) (st2 := [.inl v9, .inr (.inl x3)]) (r1 := (some (.inl v9), h8)) (h2 := h8) (ky := 1) X dX3_countReadings_60 ca_X10_mayEnd ci_X10_mayEnd cs_X10_mayEnd ml_3_104 (by decide) lx1 rfl rfl (m_X10_mayEnd _ _ _ _ lx1 hc) rfl rfl (Nat.le_of_ble_eq_true rfl) rfl rfl ?_
    refine J_if_eq (pc := 63) (tgt := 76) X dX3_countReadings_63 rfl (fun c10 => ?_) (fun c10 => ?_)
    · have hq := ite_t hq c10
      refine J_lconst (pc := 76) X (v := 0) (by decide) dX3_countReadings_76 ?_
      refine J_ladd (pc := 77) X dX3_countReadings_77 ?_
      refine J_lstore_n (pc := 78) X (L' := [(3, .inr (.inl (x3 + 0))), (0, .inr (.inr 113)), (1, .inr (.inr x1)), (5, .inl x5)]) (i := 3) rfl (by decide) rfl dX3_countReadings_78 ?_
      refine J_iinc (pc := 79) X (j := 3) (v := 1) (L' := [(5, .inl (x5 + 1)), (3, .inr (.inl (x3 + 0))), (0, .inr (.inr 113)), (1, .inr (.inr x1))]) rfl (by decide) (by decide) rfl dX3_countReadings_79 ?_
      refine J_goto (pc := 82) X (tgt := 47) dX3_countReadings_82 rfl ?_
      refine J_sub [2, 3, 1, 0] rfl ?_
      exact hself _ _ _ _ hq
    · have hq := ite_f hq c10
      refine J_aload_n (pc := 66) X (j := 0) (i := 0) rfl rfl dX3_countReadings_66 ?_
      refine J_getF (pc := 67) X (b := 116) ly113 fl_3_20 rfl dX3_countReadings_67 ?_
      refine J_iload (pc := 70) X (j := 3) rfl dX3_countReadings_70 ?_
      obtain ⟨g11, hq⟩ := gd hq
      refine J_laload (pc := 72) X ly116 g11 dX3_countReadings_72 ?_
      refine J_goto (pc := 73) X (tgt := 77) dX3_countReadings_73 rfl ?_
      refine J_ladd (pc := 77) X dX3_countReadings_77 ?_
      refine J_ltL hq (fun v12 hq => ?_)
      refine J_lstore_n (pc := 78) X (L' := [(3, .inr (.inl v12)), (0, .inr (.inr 113)), (1, .inr (.inr x1)), (5, .inl x5)]) (i := 3) rfl (by decide) rfl dX3_countReadings_78 ?_
      refine J_iinc (pc := 79) X (j := 3) (v := 1) (L' := [(5, .inl (x5 + 1)), (3, .inr (.inl v12)), (0, .inr (.inr 113)), (1, .inr (.inr x1))]) rfl (by decide) (by decide) rfl dX3_countReadings_79 ?_
      refine J_goto (pc := 82) X (tgt := 47) dX3_countReadings_82 rfl ?_
      refine J_sub [2, 3, 1, 0] rfl ?_
      exact hself _ _ _ _ hq
theorem tL_X3_countReadings_47 {κ : Kx} (X : OK κ cX3_countReadings 6 (some .long) "StruckWords$Judge" 4) (x1 : Nat) (k85 : Int64 → Hp → Option (Int64 × Hp)) (N : Nat) (x3 : Int64) (x5 : Int32) (h : Hp) (q : (Int64 × Hp)) (lx1 : lay x1 = some (.inl 8)) (hk85 : ∀ (x3 : Int64) (h : Hp) (q : (Int64 × Hp)), k85 x3 h = some q → J κ 85 [(3, .inr (.inl x3))] [] h (some (.inr (.inl q.1)), q.2)) (hq : itr3 (F_X3_countReadings_47 x1 k85) N x3 x5 h = some q) : J κ 47 [(0, .inr (.inr 113)), (1, .inr (.inr x1)), (3, .inr (.inl x3)), (5, .inl x5)] [] h (some (.inr (.inl q.1)), q.2) :=
  itr3_ind (fun self hs x3 x5 h q hq => tF_X3_countReadings_47 X x1 k85 self x3 x5 h q lx1 hk85 hs hq) N x3 x5 h q hq
theorem tf_X3_countReadings {κ : Kx} (X : OK κ cX3_countReadings 6 (some .long) "StruckWords$Judge" 4) (x1 : Nat) (x2 : Nat) (h : Hp) (q : (Int64 × Hp)) (lx1 : lay x1 = some (.inl 8)) (lx2 : lay x2 = some (.inl 5)) (hq : f_X3_countReadings x1 x2 h = some q) : J κ 0 [(0, .inr (.inr 113)), (1, .inr (.inr x1)), (2, .inr (.inr x2))] [] h (some (.inr (.inl q.1)), q.2) := by
  delta f_X3_countReadings at hq
  refine J_aload_n (pc := 0) X (j := 0) (i := 0) rfl rfl dX3_countReadings_0 ?_
  refine J_getF (pc := 1) X (b := 116) ly113 fl_3_20 rfl dX3_countReadings_1 ?_
  refine J_lconst (pc := 4) X (v := 0) (by decide) dX3_countReadings_4 ?_
  obtain ⟨h1, hc, hq⟩ := bnv_e hq
  refine J_callS (pc := 5) (as := [.inr (.inr 116), .inr (.inl 0)]) (st := []) (st2 := []) (r1 := (none, h1)) (h2 := h1) (ky := 1) X dX3_countReadings_5 ca_J7_fill_d0a16 cz_J7_fill_d0a16 ml_3_91 (by decide) (m_J7_fill_d0a16 _ _ _ _ (aln_of ly116) hc) rfl rfl (Nat.le_of_ble_eq_true rfl) rfl rfl ?_
  refine J_aload_n (pc := 8) X (j := 0) (i := 0) rfl rfl dX3_countReadings_8 ?_
  refine J_getF (pc := 9) X (b := 116) ly113 fl_3_20 rfl dX3_countReadings_9 ?_
  refine J_iconst (pc := 12) X (v := 5) (by decide) dX3_countReadings_12 ?_
  refine J_lconst (pc := 13) X (v := 1) (by decide) dX3_countReadings_13 ?_
  refine J_lastore (pc := 14) X ly116 (by decide) dX3_countReadings_14 ?_
  refine J_ltH hq (fun h2 hq => ?_)
  refine J_iconst (pc := 15) X (v := 0) (by decide) dX3_countReadings_15 ?_
  refine J_istore_n (pc := 16) X (L' := [(3, .inl 0), (0, .inr (.inr 113)), (1, .inr (.inr x1)), (2, .inr (.inr x2))]) (i := 3) rfl (by decide) rfl dX3_countReadings_16 ?_
  refine J_sub [1, 2, 3, 0] rfl ?_
  refine tL_X3_countReadings_17 X _ _ _ N0 _ _ _ lx1 lx2 ?_ hq
  · intro h6 q hq
    refine J_lconst (pc := 42) X (v := 0) (by decide) dX3_countReadings_42 ?_
    refine J_lstore_n (pc := 43) X (L' := [(3, .inr (.inl 0)), (0, .inr (.inr 113)), (1, .inr (.inr x1))]) (i := 3) rfl (by decide) rfl dX3_countReadings_43 ?_
    refine J_iconst (pc := 44) X (v := 0) (by decide) dX3_countReadings_44 ?_
    refine J_istore (pc := 45) X (L' := [(5, .inl 0), (3, .inr (.inl 0)), (0, .inr (.inr 113)), (1, .inr (.inr x1))]) (by decide) rfl dX3_countReadings_45 ?_
    refine J_sub [2, 3, 1, 0] rfl ?_
    refine tL_X3_countReadings_47 X _ _ N0 _ _ _ _ lx1 ?_ hq
    · intro v14 h13 q hq
      refine J_lload_n (pc := 85) X (j := 0) (i := 3) rfl rfl dX3_countReadings_85 ?_
      obtain rfl := Option.some.inj hq
      exact J_lret (pc := 86) X dX3_countReadings_86
theorem m_X3_countReadings (x1 : Nat) (x2 : Nat) (h : Hp) (q : (Int64 × Hp)) (lx1 : lay x1 = some (.inl 8)) (lx2 : lay x2 = some (.inl 5)) (hq : f_X3_countReadings x1 x2 h = some q) : ∀ l w, CT l w yX3_countReadings cX3_countReadings 6 (some .long) 4 [.inr (.inr 113), .inr (.inr x1), .inr (.inr x2)] h (some (.inr (.inl q.1)), q.2) :=
  CT_of (L0 := [(0, .inr (.inr 113)), (1, .inr (.inr x1)), (2, .inr (.inr x2))]) (by decide) rfl (Nat.le_of_ble_eq_true rfl) (fun κ X => tf_X3_countReadings X x1 x2 h q lx1 lx2 hq)
theorem tF_X3_firstBehind_2 {κ : Kx} (X : OK κ cX3_firstBehind 4 (some .int) "StruckWords$Judge" 2) (x0 : Nat) (x1 : Int32) (x2 : Int32) (k27 : Int32 → Hp → Option (Int32 × Hp)) (k35 : Hp → Option (Int32 × Hp)) (self : Int32 → Hp → Option (Int32 × Hp)) (x3 : Int32) (h : Hp) (q : (Int32 × Hp)) (lx0 : lay x0 = some (.inl 8)) (hk27 : ∀ (x3 : Int32) (h : Hp) (q : (Int32 × Hp)), k27 x3 h = some q → J κ 27 [(3, .inl x3)] [] h (some (.inl q.1), q.2)) (hk35 : ∀ (h : Hp) (q : (Int32 × Hp)), k35 h = some q → J κ 35 [] [] h (some (.inl q.1), q.2)) (hself : ∀ (x3 : Int32) (h : Hp) (q : (Int32 × Hp)), self x3 h = some q → J κ 2 [(0, .inr (.inr x0)), (1, .inl x1), (2, .inl x2), (3, .inl x3)] [] h (some (.inl q.1), q.2)) (hq : F_X3_firstBehind_2 x0 x1 x2 k27 k35 self x3 h = some q) : J κ 2 [(0, .inr (.inr x0)), (1, .inl x1), (2, .inl x2), (3, .inl x3)] [] h (some (.inl q.1), q.2) := by
  delta F_X3_firstBehind_2 at hq
  refine J_iload_n (pc := 2) X (j := 3) (i := 3) rfl rfl dX3_firstBehind_2 ?_
  refine J_aload_n (pc := 3) X (j := 0) (i := 0) rfl rfl dX3_firstBehind_3 ?_
  refine J_getI (pc := 4) X lx0 fl_3_101 dX3_firstBehind_4 ?_
  refine J_icmp_ge (pc := 7) (tgt := 35) X dX3_firstBehind_7 rfl (fun c1 => ?_) (fun c1 => ?_)
  · have hq := ite_t hq c1
    refine J_sub [] rfl ?_
    exact hk35 _ _ hq
  · have hq := ite_f hq c1
    refine J_iload_n (pc := 10) X (j := 2) (i := 2) rfl rfl dX3_firstBehind_10 ?_
    refine J_iload_n (pc := 11) X (j := 3) (i := 3) rfl rfl dX3_firstBehind_11 ?_
    refine J_ishr (pc := 12) X dX3_firstBehind_12 ?_
    refine J_iconst (pc := 13) X (v := 1) (by decide) dX3_firstBehind_13 ?_
    refine J_iand (pc := 14) X dX3_firstBehind_14 ?_
    refine J_if_eq (pc := 15) (tgt := 29) X dX3_firstBehind_15 rfl (fun c2 => ?_) (fun c2 => ?_)
    · have hq := ite_t hq c2
      refine J_iinc (pc := 29) X (j := 3) (v := 1) (L' := [(3, .inl (x3 + 1)), (0, .inr (.inr x0)), (1, .inl x1), (2, .inl x2)]) rfl (by decide) (by decide) rfl dX3_firstBehind_29 ?_
      refine J_goto (pc := 32) X (tgt := 2) dX3_firstBehind_32 rfl ?_
      refine J_sub [1, 2, 3, 0] rfl ?_
      exact hself _ _ _ hq
    · have hq := ite_f hq c2
      refine J_aload_n (pc := 18) X (j := 0) (i := 0) rfl rfl dX3_firstBehind_18 ?_
      refine J_iload_n (pc := 19) X (j := 1) (i := 1) rfl rfl dX3_firstBehind_19 ?_
      refine J_iload_n (pc := 20) X (j := 3) (i := 3) rfl rfl dX3_firstBehind_20 ?_
      obtain ⟨v4, h3, hc, hq⟩ := bnd_e hq
      refine J_callV (pc := 21) (as := [.inl x1, .inl x3]) (st := []) (st2 := [.inl v4]) (r1 := (some (.inl v4), h3)) (h2 := h3) (ky := 1) X dX3_firstBehind_21 ca_X10_mayFollow ci_X10_mayFollow cs_X10_mayFollow ml_3_111 (by decide) lx0 rfl rfl (m_X10_mayFollow _ _ _ _ _ lx0 hc) rfl rfl (Nat.le_of_ble_eq_true rfl) rfl rfl ?_
      refine J_if_eq (pc := 24) (tgt := 29) X dX3_firstBehind_24 rfl (fun c5 => ?_) (fun c5 => ?_)
      · have hq := ite_t hq c5
        refine J_iinc (pc := 29) X (j := 3) (v := 1) (L' := [(3, .inl (x3 + 1)), (0, .inr (.inr x0)), (1, .inl x1), (2, .inl x2)]) rfl (by decide) (by decide) rfl dX3_firstBehind_29 ?_
        refine J_goto (pc := 32) X (tgt := 2) dX3_firstBehind_32 rfl ?_
        refine J_sub [1, 2, 3, 0] rfl ?_
        exact hself _ _ _ hq
      · have hq := ite_f hq c5
        refine J_sub [3] rfl ?_
        exact hk27 _ _ _ hq
theorem tL_X3_firstBehind_2 {κ : Kx} (X : OK κ cX3_firstBehind 4 (some .int) "StruckWords$Judge" 2) (x0 : Nat) (x1 : Int32) (x2 : Int32) (k27 : Int32 → Hp → Option (Int32 × Hp)) (k35 : Hp → Option (Int32 × Hp)) (N : Nat) (x3 : Int32) (h : Hp) (q : (Int32 × Hp)) (lx0 : lay x0 = some (.inl 8)) (hk27 : ∀ (x3 : Int32) (h : Hp) (q : (Int32 × Hp)), k27 x3 h = some q → J κ 27 [(3, .inl x3)] [] h (some (.inl q.1), q.2)) (hk35 : ∀ (h : Hp) (q : (Int32 × Hp)), k35 h = some q → J κ 35 [] [] h (some (.inl q.1), q.2)) (hq : itr2 (F_X3_firstBehind_2 x0 x1 x2 k27 k35) N x3 h = some q) : J κ 2 [(0, .inr (.inr x0)), (1, .inl x1), (2, .inl x2), (3, .inl x3)] [] h (some (.inl q.1), q.2) :=
  itr2_ind (fun self hs x3 h q hq => tF_X3_firstBehind_2 X x0 x1 x2 k27 k35 self x3 h q lx0 hk27 hk35 hs hq) N x3 h q hq
theorem tf_X3_firstBehind {κ : Kx} (X : OK κ cX3_firstBehind 4 (some .int) "StruckWords$Judge" 2) (x0 : Nat) (x1 : Int32) (x2 : Int32) (h : Hp) (q : (Int32 × Hp)) (lx0 : lay x0 = some (.inl 8)) (hq : f_X3_firstBehind x0 x1 x2 h = some q) : J κ 0 [(0, .inr (.inr x0)), (1, .inl x1), (2, .inl x2)] [] h (some (.inl q.1), q.2) := by
  delta f_X3_firstBehind at hq
  refine J_iconst (pc := 0) X (v := 0) (by decide) dX3_firstBehind_0 ?_
  refine J_istore_n (pc := 1) X (L' := [(3, .inl 0), (0, .inr (.inr x0)), (1, .inl x1), (2, .inl x2)]) (i := 3) rfl (by decide) rfl dX3_firstBehind_1 ?_
  refine J_sub [1, 2, 3, 0] rfl ?_
  refine tL_X3_firstBehind_2 X _ _ _ _ _ N0 _ _ _ lx0 ?_ ?_ hq
  · intro v7 h6 q hq
    refine J_iload_n (pc := 27) X (j := 0) (i := 3) rfl rfl dX3_firstBehind_27 ?_
    obtain rfl := Option.some.inj hq
    exact J_iret (pc := 28) X dX3_firstBehind_28
  · intro h8 q hq
    refine J_iconst (pc := 35) X (v := (-1)) (by decide) dX3_firstBehind_35 ?_
    obtain rfl := Option.some.inj hq
    exact J_iret (pc := 36) X dX3_firstBehind_36
theorem m_X3_firstBehind (x0 : Nat) (x1 : Int32) (x2 : Int32) (h : Hp) (q : (Int32 × Hp)) (lx0 : lay x0 = some (.inl 8)) (hq : f_X3_firstBehind x0 x1 x2 h = some q) : ∀ l w, CT l w yX3_firstBehind cX3_firstBehind 4 (some .int) 2 [.inr (.inr x0), .inl x1, .inl x2] h (some (.inl q.1), q.2) :=
  CT_of (L0 := [(0, .inr (.inr x0)), (1, .inl x1), (2, .inl x2)]) (by decide) rfl (Nat.le_of_ble_eq_true rfl) (fun κ X => tf_X3_firstBehind X x0 x1 x2 h q lx0 hq)
theorem tf_X3_leadsTo {κ : Kx} (X : OK κ cX3_leadsTo 3 (some .boolean) "StruckWords$Judge" 3) (x0 : Nat) (x1 : Int32) (x2 : Int32) (h : Hp) (q : (Int32 × Hp)) (lx0 : lay x0 = some (.inl 8)) (hq : f_X3_leadsTo x0 x1 x2 h = some q) : J κ 0 [(0, .inr (.inr x0)), (1, .inl x1), (2, .inl x2)] [] h (some (.inl q.1), q.2) := by
  delta f_X3_leadsTo at hq
  refine J_aload_n (pc := 0) X (j := 0) (i := 0) rfl rfl dX3_leadsTo_0 ?_
  refine J_iload_n (pc := 1) X (j := 1) (i := 1) rfl rfl dX3_leadsTo_1 ?_
  refine J_iload_n (pc := 2) X (j := 2) (i := 2) rfl rfl dX3_leadsTo_2 ?_
  obtain ⟨v2, h1, hc, hq⟩ := bnd_e hq
  refine J_callS (pc := 3) (as := [.inr (.inr x0), .inl x1, .inl x2]) (st := []) (st2 := [.inl v2]) (r1 := (some (.inl v2), h1)) (h2 := h1) (ky := 2) X dX3_leadsTo_3 ca_X3_firstBehind cz_X3_firstBehind ml_3_124 (by decide) (m_X3_firstBehind _ _ _ _ _ lx0 hc) rfl rfl (Nat.le_of_ble_eq_true rfl) rfl rfl ?_
  refine J_if_lt (pc := 6) (tgt := 13) X dX3_leadsTo_6 rfl (fun c3 => ?_) (fun c3 => ?_)
  · have hq := ite_t hq c3
    refine J_iconst (pc := 13) X (v := 0) (by decide) dX3_leadsTo_13 ?_
    obtain rfl := Option.some.inj hq
    exact J_zret (pc := 14) X (by decide) dX3_leadsTo_14
  · have hq := ite_f hq c3
    refine J_iconst (pc := 9) X (v := 1) (by decide) dX3_leadsTo_9 ?_
    refine J_goto (pc := 10) X (tgt := 14) dX3_leadsTo_10 rfl ?_
    obtain rfl := Option.some.inj hq
    exact J_zret (pc := 14) X (by decide) dX3_leadsTo_14
theorem m_X3_leadsTo (x0 : Nat) (x1 : Int32) (x2 : Int32) (h : Hp) (q : (Int32 × Hp)) (lx0 : lay x0 = some (.inl 8)) (hq : f_X3_leadsTo x0 x1 x2 h = some q) : ∀ l w, CT l w yX3_leadsTo cX3_leadsTo 3 (some .boolean) 3 [.inr (.inr x0), .inl x1, .inl x2] h (some (.inl q.1), q.2) :=
  CT_of (L0 := [(0, .inr (.inr x0)), (1, .inl x1), (2, .inl x2)]) (by decide) rfl (Nat.le_of_ble_eq_true rfl) (fun κ X => tf_X3_leadsTo X x0 x1 x2 h q lx0 hq)
theorem tB_X3_readFirst_62 {κ : Kx} (X : OK κ cX3_readFirst 7 (some .boolean) "StruckWords$Judge" 4) (x1 : Nat) (x2 : Nat) (x3 : Int32) (x4 : Int32) (k105 : Hp → Option (Int32 × Hp)) (self : Int32 → Hp → Option (Int32 × Hp)) (x5 : Int32) (t0 : Int32) (h : Hp) (q : (Int32 × Hp)) (lx1 : lay x1 = some (.inl 8)) (lx2 : lay x2 = some (.inl 5)) (hk105 : ∀ (h : Hp) (q : (Int32 × Hp)), k105 h = some q → J κ 105 [(0, .inr (.inr 113)), (1, .inr (.inr x1)), (2, .inr (.inr x2)), (4, .inl x4)] [] h (some (.inl q.1), q.2)) (hself : ∀ (x5 : Int32) (h : Hp) (q : (Int32 × Hp)), self x5 h = some q → J κ 26 [(0, .inr (.inr 113)), (1, .inr (.inr x1)), (2, .inr (.inr x2)), (3, .inl x3), (4, .inl x4), (5, .inl x5)] [] h (some (.inl q.1), q.2)) (hq : B_X3_readFirst_62 x1 x2 x3 x4 k105 self x5 t0 h = some q) : J κ 62 [(0, .inr (.inr 113)), (1, .inr (.inr x1)), (2, .inr (.inr x2)), (3, .inl x3), (4, .inl x4), (5, .inl x5)] [.inl t0] h (some (.inl q.1), q.2) := by
  delta B_X3_readFirst_62 at hq
  refine J_istore (pc := 62) X (L' := [(6, .inl t0), (0, .inr (.inr 113)), (1, .inr (.inr x1)), (2, .inr (.inr x2)), (3, .inl x3), (4, .inl x4), (5, .inl x5)]) (by decide) rfl dX3_readFirst_62 ?_
  refine J_iload (pc := 64) X (j := 0) rfl dX3_readFirst_64 ?_
  refine J_if_eq (pc := 66) (tgt := 99) X dX3_readFirst_66 rfl (fun c9 => ?_) (fun c9 => ?_)
  · have hq := ite_t hq c9
    refine J_iinc (pc := 99) X (j := 6) (v := 1) (L' := [(5, .inl (x5 + 1)), (6, .inl t0), (0, .inr (.inr 113)), (1, .inr (.inr x1)), (2, .inr (.inr x2)), (3, .inl x3), (4, .inl x4)]) rfl (by decide) (by decide) rfl dX3_readFirst_99 ?_
    refine J_goto (pc := 102) X (tgt := 26) dX3_readFirst_102 rfl ?_
    refine J_sub [2, 3, 4, 5, 6, 0] rfl ?_
    exact hself _ _ _ hq
  · have hq := ite_f hq c9
    refine J_aload_n (pc := 69) X (j := 2) (i := 1) rfl rfl dX3_readFirst_69 ?_
    refine J_aload_n (pc := 70) X (j := 3) (i := 2) rfl rfl dX3_readFirst_70 ?_
    refine J_getF (pc := 71) X (b := x2 + 1) lx2 fl_3_65 rfl dX3_readFirst_71 ?_
    refine J_iload (pc := 74) X (j := 5) rfl dX3_readFirst_74 ?_
    obtain ⟨g10, hq⟩ := gd hq
    refine J_iaload (pc := 76) X (ly_5_1 lx2) g10 dX3_readFirst_76 ?_
    refine J_iload (pc := 77) X (j := 6) rfl dX3_readFirst_77 ?_
    obtain ⟨v12, h11, hc, hq⟩ := bnd_e hq
    refine J_callV (pc := 79) (as := [.inl (h.1 (x2 + 1) (x4.toNatClampNeg)), .inl x5]) (st := []) (st2 := [.inl v12]) (r1 := (some (.inl v12), h11)) (h2 := h11) (ky := 1) X dX3_readFirst_79 ca_X10_readsAs ci_X10_readsAs cs_X10_readsAs ml_3_108 (by decide) lx1 rfl rfl (m_X10_readsAs _ _ _ _ _ lx1 hc) rfl rfl (Nat.le_of_ble_eq_true rfl) rfl rfl ?_
    refine J_if_eq (pc := 82) (tgt := 99) X dX3_readFirst_82 rfl (fun c13 => ?_) (fun c13 => ?_)
    · have hq := ite_t hq c13
      refine J_iinc (pc := 99) X (j := 6) (v := 1) (L' := [(5, .inl (x5 + 1)), (6, .inl t0), (0, .inr (.inr 113)), (1, .inr (.inr x1)), (2, .inr (.inr x2)), (3, .inl x3), (4, .inl x4)]) rfl (by decide) (by decide) rfl dX3_readFirst_99 ?_
      refine J_goto (pc := 102) X (tgt := 26) dX3_readFirst_102 rfl ?_
      refine J_sub [2, 3, 4, 5, 6, 0] rfl ?_
      exact hself _ _ _ hq
    · have hq := ite_f hq c13
      refine J_aload_n (pc := 85) X (j := 1) (i := 0) rfl rfl dX3_readFirst_85 ?_
      refine J_getF (pc := 86) X (b := 118) ly113 fl_3_27 rfl dX3_readFirst_86 ?_
      refine J_iload (pc := 89) X (j := 5) rfl dX3_readFirst_89 ?_
      refine J_dup2 (pc := 91) X rfl rfl dX3_readFirst_91 ?_
      obtain ⟨g14, hq⟩ := gd hq
      refine J_iaload (pc := 92) X ly118 g14 dX3_readFirst_92 ?_
      refine J_iconst (pc := 93) X (v := 1) (by decide) dX3_readFirst_93 ?_
      refine J_iload (pc := 94) X (j := 6) rfl dX3_readFirst_94 ?_
      refine J_ishl (pc := 96) X dX3_readFirst_96 ?_
      refine J_ior (pc := 97) X dX3_readFirst_97 ?_
      obtain ⟨g15, hq⟩ := gd hq
      refine J_iastore (pc := 98) X ly118 g15 dX3_readFirst_98 ?_
      refine J_ltH hq (fun h16 hq => ?_)
      refine J_iinc (pc := 99) X (j := 6) (v := 1) (L' := [(5, .inl (x5 + 1)), (6, .inl t0), (0, .inr (.inr 113)), (1, .inr (.inr x1)), (2, .inr (.inr x2)), (3, .inl x3), (4, .inl x4)]) rfl (by decide) (by decide) rfl dX3_readFirst_99 ?_
      refine J_goto (pc := 102) X (tgt := 26) dX3_readFirst_102 rfl ?_
      refine J_sub [2, 3, 4, 5, 6, 0] rfl ?_
      exact hself _ _ _ hq
theorem tF_X3_readFirst_26 {κ : Kx} (X : OK κ cX3_readFirst 7 (some .boolean) "StruckWords$Judge" 4) (x1 : Nat) (x2 : Nat) (x3 : Int32) (x4 : Int32) (k105 : Hp → Option (Int32 × Hp)) (self : Int32 → Hp → Option (Int32 × Hp)) (x5 : Int32) (h : Hp) (q : (Int32 × Hp)) (lx1 : lay x1 = some (.inl 8)) (lx2 : lay x2 = some (.inl 5)) (hk105 : ∀ (h : Hp) (q : (Int32 × Hp)), k105 h = some q → J κ 105 [(0, .inr (.inr 113)), (1, .inr (.inr x1)), (2, .inr (.inr x2)), (4, .inl x4)] [] h (some (.inl q.1), q.2)) (hself : ∀ (x5 : Int32) (h : Hp) (q : (Int32 × Hp)), self x5 h = some q → J κ 26 [(0, .inr (.inr 113)), (1, .inr (.inr x1)), (2, .inr (.inr x2)), (3, .inl x3), (4, .inl x4), (5, .inl x5)] [] h (some (.inl q.1), q.2)) (hq : F_X3_readFirst_26 x1 x2 x3 x4 k105 self x5 h = some q) : J κ 26 [(0, .inr (.inr 113)), (1, .inr (.inr x1)), (2, .inr (.inr x2)), (3, .inl x3), (4, .inl x4), (5, .inl x5)] [] h (some (.inl q.1), q.2) := by
  delta F_X3_readFirst_26 at hq
  refine J_iload (pc := 26) X (j := 5) rfl dX3_readFirst_26 ?_
  refine J_aload_n (pc := 28) X (j := 1) (i := 1) rfl rfl dX3_readFirst_28 ?_
  refine J_getI (pc := 29) X lx1 fl_3_101 dX3_readFirst_29 ?_
  refine J_icmp_ge (pc := 32) (tgt := 105) X dX3_readFirst_32 rfl (fun c5 => ?_) (fun c5 => ?_)
  · have hq := ite_t hq c5
    refine J_sub [0, 1, 2, 4] rfl ?_
    exact hk105 _ _ hq
  · have hq := ite_f hq c5
    refine J_iload (pc := 35) X (j := 4) rfl dX3_readFirst_35 ?_
    refine J_aload_n (pc := 37) X (j := 2) (i := 2) rfl rfl dX3_readFirst_37 ?_
    refine J_getI (pc := 38) X lx2 fl_3_40 dX3_readFirst_38 ?_
    refine J_iconst (pc := 41) X (v := 1) (by decide) dX3_readFirst_41 ?_
    refine J_isub (pc := 42) X dX3_readFirst_42 ?_
    refine J_icmp_ne (pc := 43) (tgt := 55) X dX3_readFirst_43 rfl (fun c6 => ?_) (fun c6 => ?_)
    · have hq := ite_f hq c6
      refine J_aload_n (pc := 55) X (j := 1) (i := 1) rfl rfl dX3_readFirst_55 ?_
      refine J_iload (pc := 56) X (j := 5) rfl dX3_readFirst_56 ?_
      refine J_iload_n (pc := 58) X (j := 3) (i := 3) rfl rfl dX3_readFirst_58 ?_
      obtain ⟨v8, h7, hc, hq⟩ := bnd_e hq
      refine J_callS (pc := 59) (as := [.inr (.inr x1), .inl x5, .inl x3]) (st := []) (st2 := [.inl v8]) (r1 := (some (.inl v8), h7)) (h2 := h7) (ky := 3) X dX3_readFirst_59 ca_X3_leadsTo cz_X3_leadsTo ml_3_120 (by decide) (m_X3_leadsTo _ _ _ _ _ lx1 hc) rfl rfl (Nat.le_of_ble_eq_true rfl) rfl rfl ?_
      exact tB_X3_readFirst_62 X _ _ _ _ _ _ _ _ _ _ lx1 lx2 hk105 hself hq
    · have hq := ite_t hq c6
      refine J_aload_n (pc := 46) X (j := 1) (i := 1) rfl rfl dX3_readFirst_46 ?_
      refine J_iload (pc := 47) X (j := 5) rfl dX3_readFirst_47 ?_
      obtain ⟨v18, h17, hc, hq⟩ := bnd_e hq
      refine J_callV (pc := 49) (as := [.inl x5]) (st := []) (st2 := [.inl v18]) (r1 := (some (.inl v18), h17)) (h2 := h17) (ky := 1) X dX3_readFirst_49 ca_X10_mayEnd ci_X10_mayEnd cs_X10_mayEnd ml_3_104 (by decide) lx1 rfl rfl (m_X10_mayEnd _ _ _ _ lx1 hc) rfl rfl (Nat.le_of_ble_eq_true rfl) rfl rfl ?_
      refine J_goto (pc := 52) X (tgt := 62) dX3_readFirst_52 rfl ?_
      exact tB_X3_readFirst_62 X _ _ _ _ _ _ _ _ _ _ lx1 lx2 hk105 hself hq
theorem tL_X3_readFirst_26 {κ : Kx} (X : OK κ cX3_readFirst 7 (some .boolean) "StruckWords$Judge" 4) (x1 : Nat) (x2 : Nat) (x3 : Int32) (x4 : Int32) (k105 : Hp → Option (Int32 × Hp)) (N : Nat) (x5 : Int32) (h : Hp) (q : (Int32 × Hp)) (lx1 : lay x1 = some (.inl 8)) (lx2 : lay x2 = some (.inl 5)) (hk105 : ∀ (h : Hp) (q : (Int32 × Hp)), k105 h = some q → J κ 105 [(0, .inr (.inr 113)), (1, .inr (.inr x1)), (2, .inr (.inr x2)), (4, .inl x4)] [] h (some (.inl q.1), q.2)) (hq : itr2 (F_X3_readFirst_26 x1 x2 x3 x4 k105) N x5 h = some q) : J κ 26 [(0, .inr (.inr 113)), (1, .inr (.inr x1)), (2, .inr (.inr x2)), (3, .inl x3), (4, .inl x4), (5, .inl x5)] [] h (some (.inl q.1), q.2) :=
  itr2_ind (fun self hs x5 h q hq => tF_X3_readFirst_26 X x1 x2 x3 x4 k105 self x5 h q lx1 lx2 hk105 hs hq) N x5 h q hq
theorem tF_X3_readFirst_10 {κ : Kx} (X : OK κ cX3_readFirst 7 (some .boolean) "StruckWords$Judge" 4) (x1 : Nat) (x2 : Nat) (k119 : Hp → Option (Int32 × Hp)) (self : Int32 → Int32 → Hp → Option (Int32 × Hp)) (x3 : Int32) (x4 : Int32) (h : Hp) (q : (Int32 × Hp)) (lx1 : lay x1 = some (.inl 8)) (lx2 : lay x2 = some (.inl 5)) (hk119 : ∀ (h : Hp) (q : (Int32 × Hp)), k119 h = some q → J κ 119 [(0, .inr (.inr 113)), (1, .inr (.inr x1)), (2, .inr (.inr x2))] [] h (some (.inl q.1), q.2)) (hself : ∀ (x3 : Int32) (x4 : Int32) (h : Hp) (q : (Int32 × Hp)), self x3 x4 h = some q → J κ 10 [(0, .inr (.inr 113)), (1, .inr (.inr x1)), (2, .inr (.inr x2)), (3, .inl x3), (4, .inl x4)] [] h (some (.inl q.1), q.2)) (hq : F_X3_readFirst_10 x1 x2 k119 self x3 x4 h = some q) : J κ 10 [(0, .inr (.inr 113)), (1, .inr (.inr x1)), (2, .inr (.inr x2)), (3, .inl x3), (4, .inl x4)] [] h (some (.inl q.1), q.2) := by
  delta F_X3_readFirst_10 at hq
  refine J_iload (pc := 10) X (j := 4) rfl dX3_readFirst_10 ?_
  refine J_if_lt (pc := 12) (tgt := 119) X dX3_readFirst_12 rfl (fun c2 => ?_) (fun c2 => ?_)
  · have hq := ite_t hq c2
    refine J_sub [0, 1, 2] rfl ?_
    exact hk119 _ _ hq
  · have hq := ite_f hq c2
    refine J_aload_n (pc := 15) X (j := 0) (i := 0) rfl rfl dX3_readFirst_15 ?_
    refine J_getF (pc := 16) X (b := 118) ly113 fl_3_27 rfl dX3_readFirst_16 ?_
    refine J_iload (pc := 19) X (j := 4) rfl dX3_readFirst_19 ?_
    refine J_iconst (pc := 21) X (v := 0) (by decide) dX3_readFirst_21 ?_
    obtain ⟨g3, hq⟩ := gd hq
    refine J_iastore (pc := 22) X ly118 g3 dX3_readFirst_22 ?_
    refine J_ltH hq (fun h4 hq => ?_)
    refine J_iconst (pc := 23) X (v := 0) (by decide) dX3_readFirst_23 ?_
    refine J_istore (pc := 24) X (L' := [(5, .inl 0), (0, .inr (.inr 113)), (1, .inr (.inr x1)), (2, .inr (.inr x2)), (3, .inl x3), (4, .inl x4)]) (by decide) rfl dX3_readFirst_24 ?_
    refine J_sub [1, 2, 3, 4, 5, 0] rfl ?_
    refine tL_X3_readFirst_26 X _ _ _ _ _ N0 _ _ _ lx1 lx2 ?_ hq
    · intro h19 q hq
      refine J_aload_n (pc := 105) X (j := 0) (i := 0) rfl rfl dX3_readFirst_105 ?_
      refine J_getF (pc := 106) X (b := 118) ly113 fl_3_27 rfl dX3_readFirst_106 ?_
      refine J_iload (pc := 109) X (j := 3) rfl dX3_readFirst_109 ?_
      obtain ⟨g20, hq⟩ := gd hq
      refine J_iaload (pc := 111) X ly118 g20 dX3_readFirst_111 ?_
      refine J_ltI hq (fun v21 hq => ?_)
      refine J_istore_n (pc := 112) X (L' := [(3, .inl v21), (0, .inr (.inr 113)), (1, .inr (.inr x1)), (2, .inr (.inr x2)), (4, .inl x4)]) (i := 3) rfl (by decide) rfl dX3_readFirst_112 ?_
      refine J_iinc (pc := 113) X (j := 4) (v := (-1)) (L' := [(4, .inl (x4 + (-1))), (3, .inl v21), (0, .inr (.inr 113)), (1, .inr (.inr x1)), (2, .inr (.inr x2))]) rfl (by decide) (by decide) rfl dX3_readFirst_113 ?_
      refine J_goto (pc := 116) X (tgt := 10) dX3_readFirst_116 rfl ?_
      refine J_sub [2, 3, 4, 1, 0] rfl ?_
      exact hself _ _ _ _ hq
theorem tL_X3_readFirst_10 {κ : Kx} (X : OK κ cX3_readFirst 7 (some .boolean) "StruckWords$Judge" 4) (x1 : Nat) (x2 : Nat) (k119 : Hp → Option (Int32 × Hp)) (N : Nat) (x3 : Int32) (x4 : Int32) (h : Hp) (q : (Int32 × Hp)) (lx1 : lay x1 = some (.inl 8)) (lx2 : lay x2 = some (.inl 5)) (hk119 : ∀ (h : Hp) (q : (Int32 × Hp)), k119 h = some q → J κ 119 [(0, .inr (.inr 113)), (1, .inr (.inr x1)), (2, .inr (.inr x2))] [] h (some (.inl q.1), q.2)) (hq : itr3 (F_X3_readFirst_10 x1 x2 k119) N x3 x4 h = some q) : J κ 10 [(0, .inr (.inr 113)), (1, .inr (.inr x1)), (2, .inr (.inr x2)), (3, .inl x3), (4, .inl x4)] [] h (some (.inl q.1), q.2) :=
  itr3_ind (fun self hs x3 x4 h q hq => tF_X3_readFirst_10 X x1 x2 k119 self x3 x4 h q lx1 lx2 hk119 hs hq) N x3 x4 h q hq
theorem tF_X3_readFirst_125 {κ : Kx} (X : OK κ cX3_readFirst 7 (some .boolean) "StruckWords$Judge" 4) (x1 : Nat) (x2 : Nat) (k154 : Hp → Option (Int32 × Hp)) (k171 : Hp → Option (Int32 × Hp)) (self : Int32 → Int32 → Hp → Option (Int32 × Hp)) (x4 : Int32) (x5 : Int32) (h : Hp) (q : (Int32 × Hp)) (lx1 : lay x1 = some (.inl 8)) (lx2 : lay x2 = some (.inl 5)) (hk154 : ∀ (h : Hp) (q : (Int32 × Hp)), k154 h = some q → J κ 154 [] [] h (some (.inl q.1), q.2)) (hk171 : ∀ (h : Hp) (q : (Int32 × Hp)), k171 h = some q → J κ 171 [(2, .inr (.inr x2))] [] h (some (.inl q.1), q.2)) (hself : ∀ (x4 : Int32) (x5 : Int32) (h : Hp) (q : (Int32 × Hp)), self x4 x5 h = some q → J κ 125 [(0, .inr (.inr 113)), (1, .inr (.inr x1)), (2, .inr (.inr x2)), (4, .inl x4), (5, .inl x5)] [] h (some (.inl q.1), q.2)) (hq : F_X3_readFirst_125 x1 x2 k154 k171 self x4 x5 h = some q) : J κ 125 [(0, .inr (.inr 113)), (1, .inr (.inr x1)), (2, .inr (.inr x2)), (4, .inl x4), (5, .inl x5)] [] h (some (.inl q.1), q.2) := by
  delta F_X3_readFirst_125 at hq
  refine J_iload (pc := 125) X (j := 4) rfl dX3_readFirst_125 ?_
  refine J_aload_n (pc := 127) X (j := 2) (i := 2) rfl rfl dX3_readFirst_127 ?_
  refine J_getI (pc := 128) X lx2 fl_3_40 dX3_readFirst_128 ?_
  refine J_icmp_ge (pc := 131) (tgt := 171) X dX3_readFirst_131 rfl (fun c23 => ?_) (fun c23 => ?_)
  · have hq := ite_t hq c23
    refine J_sub [2] rfl ?_
    exact hk171 _ _ hq
  · have hq := ite_f hq c23
    refine J_aload_n (pc := 134) X (j := 1) (i := 1) rfl rfl dX3_readFirst_134 ?_
    refine J_iload (pc := 135) X (j := 3) rfl dX3_readFirst_135 ?_
    refine J_aload_n (pc := 137) X (j := 0) (i := 0) rfl rfl dX3_readFirst_137 ?_
    refine J_getF (pc := 138) X (b := 118) ly113 fl_3_27 rfl dX3_readFirst_138 ?_
    refine J_iload (pc := 141) X (j := 4) rfl dX3_readFirst_141 ?_
    obtain ⟨g24, hq⟩ := gd hq
    refine J_iaload (pc := 143) X ly118 g24 dX3_readFirst_143 ?_
    obtain ⟨v26, h25, hc, hq⟩ := bnd_e hq
    refine J_callS (pc := 144) (as := [.inr (.inr x1), .inl x4, .inl (h.1 118 (x5.toNatClampNeg))]) (st := []) (st2 := [.inl v26]) (r1 := (some (.inl v26), h25)) (h2 := h25) (ky := 2) X dX3_readFirst_144 ca_X3_firstBehind cz_X3_firstBehind ml_3_124 (by decide) (m_X3_firstBehind _ _ _ _ _ lx1 hc) rfl rfl (Nat.le_of_ble_eq_true rfl) rfl rfl ?_
    refine J_istore (pc := 147) X (L' := [(4, .inl v26), (0, .inr (.inr 113)), (1, .inr (.inr x1)), (2, .inr (.inr x2)), (5, .inl x5)]) (by decide) rfl dX3_readFirst_147 ?_
    refine J_iload (pc := 149) X (j := 0) rfl dX3_readFirst_149 ?_
    refine J_if_ge (pc := 151) (tgt := 156) X dX3_readFirst_151 rfl (fun c27 => ?_) (fun c27 => ?_)
    · have hq := ite_t hq c27
      refine J_aload_n (pc := 156) X (j := 1) (i := 0) rfl rfl dX3_readFirst_156 ?_
      refine J_getF (pc := 157) X (b := 119) ly113 fl_3_31 rfl dX3_readFirst_157 ?_
      refine J_iload (pc := 160) X (j := 4) rfl dX3_readFirst_160 ?_
      refine J_iload (pc := 162) X (j := 0) rfl dX3_readFirst_162 ?_
      obtain ⟨g28, hq⟩ := gd hq
      refine J_iastore (pc := 164) X ly119 g28 dX3_readFirst_164 ?_
      refine J_ltH hq (fun h29 hq => ?_)
      refine J_iinc (pc := 165) X (j := 4) (v := 1) (L' := [(5, .inl (x5 + 1)), (4, .inl v26), (0, .inr (.inr 113)), (1, .inr (.inr x1)), (2, .inr (.inr x2))]) rfl (by decide) (by decide) rfl dX3_readFirst_165 ?_
      refine J_goto (pc := 168) X (tgt := 125) dX3_readFirst_168 rfl ?_
      refine J_sub [2, 3, 4, 1, 0] rfl ?_
      exact hself _ _ _ _ hq
    · have hq := ite_f hq c27
      refine J_sub [] rfl ?_
      exact hk154 _ _ hq
theorem tL_X3_readFirst_125 {κ : Kx} (X : OK κ cX3_readFirst 7 (some .boolean) "StruckWords$Judge" 4) (x1 : Nat) (x2 : Nat) (k154 : Hp → Option (Int32 × Hp)) (k171 : Hp → Option (Int32 × Hp)) (N : Nat) (x4 : Int32) (x5 : Int32) (h : Hp) (q : (Int32 × Hp)) (lx1 : lay x1 = some (.inl 8)) (lx2 : lay x2 = some (.inl 5)) (hk154 : ∀ (h : Hp) (q : (Int32 × Hp)), k154 h = some q → J κ 154 [] [] h (some (.inl q.1), q.2)) (hk171 : ∀ (h : Hp) (q : (Int32 × Hp)), k171 h = some q → J κ 171 [(2, .inr (.inr x2))] [] h (some (.inl q.1), q.2)) (hq : itr3 (F_X3_readFirst_125 x1 x2 k154 k171) N x4 x5 h = some q) : J κ 125 [(0, .inr (.inr 113)), (1, .inr (.inr x1)), (2, .inr (.inr x2)), (4, .inl x4), (5, .inl x5)] [] h (some (.inl q.1), q.2) :=
  itr3_ind (fun self hs x4 x5 h q hq => tF_X3_readFirst_125 X x1 x2 k154 k171 self x4 x5 h q lx1 lx2 hk154 hk171 hs hq) N x4 x5 h q hq
theorem tf_X3_readFirst {κ : Kx} (X : OK κ cX3_readFirst 7 (some .boolean) "StruckWords$Judge" 4) (x1 : Nat) (x2 : Nat) (h : Hp) (q : (Int32 × Hp)) (lx1 : lay x1 = some (.inl 8)) (lx2 : lay x2 = some (.inl 5)) (hq : f_X3_readFirst x1 x2 h = some q) : J κ 0 [(0, .inr (.inr 113)), (1, .inr (.inr x1)), (2, .inr (.inr x2))] [] h (some (.inl q.1), q.2) := by
  delta f_X3_readFirst at hq
  refine J_iconst (pc := 0) X (v := 0) (by decide) dX3_readFirst_0 ?_
  refine J_istore_n (pc := 1) X (L' := [(3, .inl 0), (0, .inr (.inr 113)), (1, .inr (.inr x1)), (2, .inr (.inr x2))]) (i := 3) rfl (by decide) rfl dX3_readFirst_1 ?_
  refine J_aload_n (pc := 2) X (j := 3) (i := 2) rfl rfl dX3_readFirst_2 ?_
  refine J_getI (pc := 3) X lx2 fl_3_40 dX3_readFirst_3 ?_
  refine J_iconst (pc := 6) X (v := 1) (by decide) dX3_readFirst_6 ?_
  refine J_isub (pc := 7) X dX3_readFirst_7 ?_
  refine J_ltI hq (fun v1 hq => ?_)
  refine J_istore (pc := 8) X (L' := [(4, .inl v1), (3, .inl 0), (0, .inr (.inr 113)), (1, .inr (.inr x1)), (2, .inr (.inr x2))]) (by decide) rfl dX3_readFirst_8 ?_
  refine J_sub [2, 3, 4, 1, 0] rfl ?_
  refine tL_X3_readFirst_10 X _ _ _ N0 _ _ _ _ lx1 lx2 ?_ hq
  · intro h22 q hq
    refine J_iconst (pc := 119) X (v := 5) (by decide) dX3_readFirst_119 ?_
    refine J_istore (pc := 120) X (L' := [(4, .inl 5), (0, .inr (.inr 113)), (1, .inr (.inr x1)), (2, .inr (.inr x2))]) (by decide) rfl dX3_readFirst_120 ?_
    refine J_iconst (pc := 122) X (v := 0) (by decide) dX3_readFirst_122 ?_
    refine J_istore (pc := 123) X (L' := [(5, .inl 0), (4, .inl 5), (0, .inr (.inr 113)), (1, .inr (.inr x1)), (2, .inr (.inr x2))]) (by decide) rfl dX3_readFirst_123 ?_
    refine J_sub [2, 3, 4, 1, 0] rfl ?_
    refine tL_X3_readFirst_125 X _ _ _ _ N0 _ _ _ _ lx1 lx2 ?_ ?_ hq
    · intro h30 q hq
      refine J_iconst (pc := 154) X (v := 0) (by decide) dX3_readFirst_154 ?_
      obtain rfl := Option.some.inj hq
      exact J_zret (pc := 155) X (by decide) dX3_readFirst_155
    · intro h31 q hq
      refine J_aload_n (pc := 171) X (j := 0) (i := 2) rfl rfl dX3_readFirst_171 ?_
      refine J_getI (pc := 172) X lx2 fl_3_40 dX3_readFirst_172 ?_
      refine J_if_le (pc := 175) (tgt := 182) X dX3_readFirst_175 rfl (fun c32 => ?_) (fun c32 => ?_)
      · have hq := ite_t hq c32
        refine J_iconst (pc := 182) X (v := 0) (by decide) dX3_readFirst_182 ?_
        obtain rfl := Option.some.inj hq
        exact J_zret (pc := 183) X (by decide) dX3_readFirst_183
      · have hq := ite_f hq c32
        refine J_iconst (pc := 178) X (v := 1) (by decide) dX3_readFirst_178 ?_
        refine J_goto (pc := 179) X (tgt := 183) dX3_readFirst_179 rfl ?_
        obtain rfl := Option.some.inj hq
        exact J_zret (pc := 183) X (by decide) dX3_readFirst_183
theorem m_X3_readFirst (x1 : Nat) (x2 : Nat) (h : Hp) (q : (Int32 × Hp)) (lx1 : lay x1 = some (.inl 8)) (lx2 : lay x2 = some (.inl 5)) (hq : f_X3_readFirst x1 x2 h = some q) : ∀ l w, CT l w yX3_readFirst cX3_readFirst 7 (some .boolean) 4 [.inr (.inr 113), .inr (.inr x1), .inr (.inr x2)] h (some (.inl q.1), q.2) :=
  CT_of (L0 := [(0, .inr (.inr 113)), (1, .inr (.inr x1)), (2, .inr (.inr x2))]) (by decide) rfl (Nat.le_of_ble_eq_true rfl) (fun κ X => tf_X3_readFirst X x1 x2 h q lx1 lx2 hq)
theorem tf_X3_sortRead {κ : Kx} (X : OK κ cX3_sortRead 2 (some .int) "StruckWords$Judge" 1) (x1 : Int32) (h : Hp) (q : (Int32 × Hp)) (hq : f_X3_sortRead x1 h = some q) : J κ 0 [(0, .inr (.inr 113)), (1, .inl x1)] [] h (some (.inl q.1), q.2) := by
  delta f_X3_sortRead at hq
  refine J_iload_n (pc := 0) X (j := 1) (i := 1) rfl rfl dX3_sortRead_0 ?_
  refine J_if_lt (pc := 1) (tgt := 22) X dX3_sortRead_1 rfl (fun c1 => ?_) (fun c1 => ?_)
  · have hq := ite_t hq c1
    refine J_iconst (pc := 22) X (v := (-1)) (by decide) dX3_sortRead_22 ?_
    obtain rfl := Option.some.inj hq
    exact J_iret (pc := 23) X dX3_sortRead_23
  · have hq := ite_f hq c1
    refine J_iload_n (pc := 4) X (j := 1) (i := 1) rfl rfl dX3_sortRead_4 ?_
    refine J_aload_n (pc := 5) X (j := 0) (i := 0) rfl rfl dX3_sortRead_5 ?_
    refine J_getF (pc := 6) X (b := 119) ly113 fl_3_31 rfl dX3_sortRead_6 ?_
    refine J_alen (pc := 9) X (v := 24) ly119 (by decide) rfl dX3_sortRead_9 ?_
    refine J_icmp_ge (pc := 10) (tgt := 22) X dX3_sortRead_10 rfl (fun c2 => ?_) (fun c2 => ?_)
    · have hq := ite_t hq c2
      refine J_iconst (pc := 22) X (v := (-1)) (by decide) dX3_sortRead_22 ?_
      obtain rfl := Option.some.inj hq
      exact J_iret (pc := 23) X dX3_sortRead_23
    · have hq := ite_f hq c2
      refine J_aload_n (pc := 13) X (j := 0) (i := 0) rfl rfl dX3_sortRead_13 ?_
      refine J_getF (pc := 14) X (b := 119) ly113 fl_3_31 rfl dX3_sortRead_14 ?_
      refine J_iload_n (pc := 17) X (j := 1) (i := 1) rfl rfl dX3_sortRead_17 ?_
      obtain ⟨g3, hq⟩ := gd hq
      refine J_iaload (pc := 18) X ly119 g3 dX3_sortRead_18 ?_
      refine J_goto (pc := 19) X (tgt := 23) dX3_sortRead_19 rfl ?_
      obtain rfl := Option.some.inj hq
      exact J_iret (pc := 23) X dX3_sortRead_23
theorem m_X3_sortRead (x1 : Int32) (h : Hp) (q : (Int32 × Hp)) (hq : f_X3_sortRead x1 h = some q) : ∀ l w, CT l w yX3_sortRead cX3_sortRead 2 (some .int) 1 [.inr (.inr 113), .inl x1] h (some (.inl q.1), q.2) :=
  CT_of (L0 := [(0, .inr (.inr 113)), (1, .inl x1)]) (by decide) rfl (Nat.le_of_ble_eq_true rfl) (fun κ X => tf_X3_sortRead X x1 h q  hq)
theorem tf_X9_letterFromLast {κ : Kx} (X : OK κ cX9_letterFromLast 2 (some .int) "StruckWords$Tokens" 1) (x0 : Int32) (x1 : Int32) (h : Hp) (q : (Int32 × Hp)) (hq : f_X9_letterFromLast x0 x1 h = some q) : J κ 0 [(0, .inl x0), (1, .inl x1)] [] h (some (.inl q.1), q.2) := by
  delta f_X9_letterFromLast at hq
  refine J_iload_n (pc := 0) X (j := 0) (i := 0) rfl rfl dX9_letterFromLast_0 ?_
  refine J_iconst (pc := 1) X (v := 5) (by decide) dX9_letterFromLast_1 ?_
  refine J_iload_n (pc := 2) X (j := 1) (i := 1) rfl rfl dX9_letterFromLast_2 ?_
  refine J_imul (pc := 3) X dX9_letterFromLast_3 ?_
  refine J_iushr (pc := 4) X dX9_letterFromLast_4 ?_
  refine J_bipush (pc := 5) X (v := 31) (by decide) dX9_letterFromLast_5 ?_
  refine J_iand (pc := 7) X dX9_letterFromLast_7 ?_
  obtain rfl := Option.some.inj hq
  exact J_iret (pc := 8) X dX9_letterFromLast_8
theorem m_X9_letterFromLast (x0 : Int32) (x1 : Int32) (h : Hp) (q : (Int32 × Hp)) (hq : f_X9_letterFromLast x0 x1 h = some q) : ∀ l w, CT l w yX9_letterFromLast cX9_letterFromLast 2 (some .int) 1 [.inl x0, .inl x1] h (some (.inl q.1), q.2) :=
  CT_of (L0 := [(0, .inl x0), (1, .inl x1)]) (by decide) rfl (Nat.le_of_ble_eq_true rfl) (fun κ X => tf_X9_letterFromLast X x0 x1 h q  hq)
theorem tF_X3_lettersBefore_2 {κ : Kx} (X : OK κ cX3_lettersBefore 5 (some .int) "StruckWords$Judge" 2) (x1 : Int32) (x2 : Int32) (k43 : Hp → Option (Int32 × Hp)) (k51 : Int32 → Hp → Option (Int32 × Hp)) (self : Int32 → Hp → Option (Int32 × Hp)) (x3 : Int32) (h : Hp) (q : (Int32 × Hp)) (hk43 : ∀ (h : Hp) (q : (Int32 × Hp)), k43 h = some q → J κ 43 [] [] h (some (.inl q.1), q.2)) (hk51 : ∀ (x3 : Int32) (h : Hp) (q : (Int32 × Hp)), k51 x3 h = some q → J κ 51 [(3, .inl x3)] [] h (some (.inl q.1), q.2)) (hself : ∀ (x3 : Int32) (h : Hp) (q : (Int32 × Hp)), self x3 h = some q → J κ 2 [(0, .inr (.inr 113)), (1, .inl x1), (2, .inl x2), (3, .inl x3)] [] h (some (.inl q.1), q.2)) (hq : F_X3_lettersBefore_2 x1 x2 k43 k51 self x3 h = some q) : J κ 2 [(0, .inr (.inr 113)), (1, .inl x1), (2, .inl x2), (3, .inl x3)] [] h (some (.inl q.1), q.2) := by
  delta F_X3_lettersBefore_2 at hq
  refine J_iload_n (pc := 2) X (j := 3) (i := 3) rfl rfl dX3_lettersBefore_2 ?_
  refine J_bipush (pc := 3) X (v := 6) (by decide) dX3_lettersBefore_3 ?_
  refine J_icmp_ge (pc := 5) (tgt := 51) X dX3_lettersBefore_5 rfl (fun c1 => ?_) (fun c1 => ?_)
  · have hq := ite_t hq c1
    refine J_sub [3] rfl ?_
    exact hk51 _ _ _ hq
  · have hq := ite_f hq c1
    refine J_iload_n (pc := 8) X (j := 2) (i := 2) rfl rfl dX3_lettersBefore_8 ?_
    refine J_iload_n (pc := 9) X (j := 3) (i := 3) rfl rfl dX3_lettersBefore_9 ?_
    obtain ⟨v3, h2, hc, hq⟩ := bnd_e hq
    refine J_callS (pc := 10) (as := [.inl x2, .inl x3]) (st := []) (st2 := [.inl v3]) (r1 := (some (.inl v3), h2)) (h2 := h2) (ky := 1) X dX3_lettersBefore_10 ca_X9_letterFromLast cz_X9_letterFromLast ml_3_153 (by decide) (m_X9_letterFromLast _ _ _ _ hc) rfl rfl (Nat.le_of_ble_eq_true rfl) rfl rfl ?_
    refine J_if_eq (pc := 13) (tgt := 51) X dX3_lettersBefore_13 rfl (fun c4 => ?_) (fun c4 => ?_)
    · have hq := ite_t hq c4
      refine J_sub [3] rfl ?_
      exact hk51 _ _ _ hq
    · have hq := ite_f hq c4
      refine J_iload_n (pc := 16) X (j := 1) (i := 1) rfl rfl dX3_lettersBefore_16 ?_
      refine J_iconst (pc := 17) X (v := 1) (by decide) dX3_lettersBefore_17 ?_
      refine J_isub (pc := 18) X dX3_lettersBefore_18 ?_
      refine J_iload_n (pc := 19) X (j := 3) (i := 3) rfl rfl dX3_lettersBefore_19 ?_
      refine J_isub (pc := 20) X dX3_lettersBefore_20 ?_
      refine J_ltI hq (fun v5 hq => ?_)
      refine J_istore (pc := 21) X (L' := [(4, .inl v5), (0, .inr (.inr 113)), (1, .inl x1), (2, .inl x2), (3, .inl x3)]) (by decide) rfl dX3_lettersBefore_21 ?_
      refine J_iload (pc := 23) X (j := 0) rfl dX3_lettersBefore_23 ?_
      refine J_if_lt (pc := 25) (tgt := 43) X dX3_lettersBefore_25 rfl (fun c6 => ?_) (fun c6 => ?_)
      · have hq := ite_t hq c6
        refine J_sub [] rfl ?_
        exact hk43 _ _ hq
      · have hq := ite_f hq c6
        refine J_aload_n (pc := 28) X (j := 1) (i := 0) rfl rfl dX3_lettersBefore_28 ?_
        refine J_getF (pc := 29) X (b := 120) ly113 fl_3_34 rfl dX3_lettersBefore_29 ?_
        refine J_iload (pc := 32) X (j := 0) rfl dX3_lettersBefore_32 ?_
        obtain ⟨g7, hq⟩ := gd hq
        refine J_iaload (pc := 34) X ly120 g7 dX3_lettersBefore_34 ?_
        refine J_iload_n (pc := 35) X (j := 3) (i := 2) rfl rfl dX3_lettersBefore_35 ?_
        refine J_iload_n (pc := 36) X (j := 4) (i := 3) rfl rfl dX3_lettersBefore_36 ?_
        obtain ⟨v9, h8, hc, hq⟩ := bnd_e hq
        refine J_callS (pc := 37) (as := [.inl x2, .inl x3]) (st := [.inl (h2.1 120 (v5.toNatClampNeg))]) (st2 := [.inl v9, .inl (h2.1 120 (v5.toNatClampNeg))]) (r1 := (some (.inl v9), h8)) (h2 := h8) (ky := 1) X dX3_lettersBefore_37 ca_X9_letterFromLast cz_X9_letterFromLast ml_3_153 (by decide) (m_X9_letterFromLast _ _ _ _ hc) rfl rfl (Nat.le_of_ble_eq_true rfl) rfl rfl ?_
        refine J_icmp_eq (pc := 40) (tgt := 45) X dX3_lettersBefore_40 rfl (fun c10 => ?_) (fun c10 => ?_)
        · have hq := ite_t hq c10
          refine J_iinc (pc := 45) X (j := 4) (v := 1) (L' := [(3, .inl (x3 + 1)), (4, .inl v5), (0, .inr (.inr 113)), (1, .inl x1), (2, .inl x2)]) rfl (by decide) (by decide) rfl dX3_lettersBefore_45 ?_
          refine J_goto (pc := 48) X (tgt := 2) dX3_lettersBefore_48 rfl ?_
          refine J_sub [2, 3, 4, 0] rfl ?_
          exact hself _ _ _ hq
        · have hq := ite_f hq c10
          refine J_sub [] rfl ?_
          exact hk43 _ _ hq
theorem tL_X3_lettersBefore_2 {κ : Kx} (X : OK κ cX3_lettersBefore 5 (some .int) "StruckWords$Judge" 2) (x1 : Int32) (x2 : Int32) (k43 : Hp → Option (Int32 × Hp)) (k51 : Int32 → Hp → Option (Int32 × Hp)) (N : Nat) (x3 : Int32) (h : Hp) (q : (Int32 × Hp)) (hk43 : ∀ (h : Hp) (q : (Int32 × Hp)), k43 h = some q → J κ 43 [] [] h (some (.inl q.1), q.2)) (hk51 : ∀ (x3 : Int32) (h : Hp) (q : (Int32 × Hp)), k51 x3 h = some q → J κ 51 [(3, .inl x3)] [] h (some (.inl q.1), q.2)) (hq : itr2 (F_X3_lettersBefore_2 x1 x2 k43 k51) N x3 h = some q) : J κ 2 [(0, .inr (.inr 113)), (1, .inl x1), (2, .inl x2), (3, .inl x3)] [] h (some (.inl q.1), q.2) :=
  itr2_ind (fun self hs x3 h q hq => tF_X3_lettersBefore_2 X x1 x2 k43 k51 self x3 h q hk43 hk51 hs hq) N x3 h q hq
theorem tf_X3_lettersBefore {κ : Kx} (X : OK κ cX3_lettersBefore 5 (some .int) "StruckWords$Judge" 2) (x1 : Int32) (x2 : Int32) (h : Hp) (q : (Int32 × Hp)) (hq : f_X3_lettersBefore x1 x2 h = some q) : J κ 0 [(0, .inr (.inr 113)), (1, .inl x1), (2, .inl x2)] [] h (some (.inl q.1), q.2) := by
  delta f_X3_lettersBefore at hq
  refine J_iconst (pc := 0) X (v := 0) (by decide) dX3_lettersBefore_0 ?_
  refine J_istore_n (pc := 1) X (L' := [(3, .inl 0), (0, .inr (.inr 113)), (1, .inl x1), (2, .inl x2)]) (i := 3) rfl (by decide) rfl dX3_lettersBefore_1 ?_
  refine J_sub [1, 2, 3, 0] rfl ?_
  refine tL_X3_lettersBefore_2 X _ _ _ _ N0 _ _ _ ?_ ?_ hq
  · intro h11 q hq
    refine J_iconst (pc := 43) X (v := 0) (by decide) dX3_lettersBefore_43 ?_
    obtain rfl := Option.some.inj hq
    exact J_iret (pc := 44) X dX3_lettersBefore_44
  · intro v13 h12 q hq
    refine J_iload_n (pc := 51) X (j := 0) (i := 3) rfl rfl dX3_lettersBefore_51 ?_
    obtain rfl := Option.some.inj hq
    exact J_iret (pc := 52) X dX3_lettersBefore_52
theorem m_X3_lettersBefore (x1 : Int32) (x2 : Int32) (h : Hp) (q : (Int32 × Hp)) (hq : f_X3_lettersBefore x1 x2 h = some q) : ∀ l w, CT l w yX3_lettersBefore cX3_lettersBefore 5 (some .int) 2 [.inr (.inr 113), .inl x1, .inl x2] h (some (.inl q.1), q.2) :=
  CT_of (L0 := [(0, .inr (.inr 113)), (1, .inl x1), (2, .inl x2)]) (by decide) rfl (Nat.le_of_ble_eq_true rfl) (fun κ X => tf_X3_lettersBefore X x1 x2 h q  hq)
theorem tB_X3_strikeLetters_66 {κ : Kx} (X : OK κ cX3_strikeLetters 9 (none) "StruckWords$Judge" 2) (x1 : Nat) (x2 : Nat) (x3 : Int32) (x5 : Int32) (x6 : Int32) (k114 : Int32 → Hp → Option Hp) (self : Int32 → Int32 → Hp → Option Hp) (x7 : Int32) (x8 : Int32) (t0 : Int32) (t1 : Int32) (h : Hp) (q : Hp) (lx1 : lay x1 = some (.inl 8)) (lx2 : lay x2 = some (.inl 5)) (hk114 : ∀ (x4 : Int32) (h : Hp) (q : Hp), k114 x4 h = some q → J κ 114 [(0, .inr (.inr 113)), (1, .inr (.inr x1)), (2, .inr (.inr x2)), (3, .inl x3), (4, .inl x4), (5, .inl x5)] [] h (none, q)) (hself : ∀ (x4 : Int32) (x7 : Int32) (h : Hp) (q : Hp), self x4 x7 h = some q → J κ 40 [(0, .inr (.inr 113)), (1, .inr (.inr x1)), (2, .inr (.inr x2)), (3, .inl x3), (4, .inl x4), (5, .inl x5), (6, .inl x6), (7, .inl x7)] [] h (none, q)) (hq : B_X3_strikeLetters_66 x1 x2 x3 x5 x6 k114 self x7 x8 t0 t1 h = some q) : J κ 66 [(0, .inr (.inr 113)), (1, .inr (.inr x1)), (2, .inr (.inr x2)), (3, .inl x3), (5, .inl x5), (6, .inl x6), (7, .inl x7), (8, .inl x8)] [.inl t0, .inl t1] h (none, q) := by
  delta B_X3_strikeLetters_66 at hq
  refine J_iadd (pc := 66) X dX3_strikeLetters_66 ?_
  refine J_ltI hq (fun v10 hq => ?_)
  refine J_istore (pc := 67) X (L' := [(4, .inl v10), (0, .inr (.inr 113)), (1, .inr (.inr x1)), (2, .inr (.inr x2)), (3, .inl x3), (5, .inl x5), (6, .inl x6), (7, .inl x7), (8, .inl x8)]) (by decide) rfl dX3_strikeLetters_67 ?_
  refine J_iload (pc := 69) X (j := 8) rfl dX3_strikeLetters_69 ?_
  refine J_if_eq (pc := 71) (tgt := 108) X dX3_strikeLetters_71 rfl (fun c11 => ?_) (fun c11 => ?_)
  · have hq := ite_t hq c11
    refine J_iinc (pc := 108) X (j := 7) (v := (-1)) (L' := [(7, .inl (x7 + (-1))), (4, .inl v10), (0, .inr (.inr 113)), (1, .inr (.inr x1)), (2, .inr (.inr x2)), (3, .inl x3), (5, .inl x5), (6, .inl x6), (8, .inl x8)]) rfl (by decide) (by decide) rfl dX3_strikeLetters_108 ?_
    refine J_goto (pc := 111) X (tgt := 40) dX3_strikeLetters_111 rfl ?_
    refine J_sub [2, 3, 4, 5, 1, 6, 7, 0] rfl ?_
    exact hself _ _ _ _ hq
  · have hq := ite_f hq c11
    refine J_aload_n (pc := 74) X (j := 2) (i := 1) rfl rfl dX3_strikeLetters_74 ?_
    refine J_getF (pc := 75) X (b := x1 + 2) lx1 fl_3_53 rfl dX3_strikeLetters_75 ?_
    refine J_iload_n (pc := 78) X (j := 4) (i := 3) rfl rfl dX3_strikeLetters_78 ?_
    refine J_iload (pc := 79) X (j := 0) rfl dX3_strikeLetters_79 ?_
    obtain ⟨v13, h12, hc, hq⟩ := bnd_e hq
    refine J_callV (pc := 81) (as := [.inl x3, .inl v10]) (st := []) (st2 := [.inl v13]) (r1 := (some (.inl v13), h12)) (h2 := h12) (ky := 1) X dX3_strikeLetters_81 ca_X1_strikes ci_X1_strikes cs_X1_strikes ml_3_59 (by decide) (ly_8_2 lx1) rfl rfl (m_X1_strikes _ _ _ _ _ (ly_8_2 lx1) hc) rfl rfl (Nat.le_of_ble_eq_true rfl) rfl rfl ?_
    refine J_if_ne (pc := 84) (tgt := 108) X dX3_strikeLetters_84 rfl (fun c14 => ?_) (fun c14 => ?_)
    · have hq := ite_f hq c14
      refine J_iinc (pc := 108) X (j := 7) (v := (-1)) (L' := [(7, .inl (x7 + (-1))), (4, .inl v10), (0, .inr (.inr 113)), (1, .inr (.inr x1)), (2, .inr (.inr x2)), (3, .inl x3), (5, .inl x5), (6, .inl x6), (8, .inl x8)]) rfl (by decide) (by decide) rfl dX3_strikeLetters_108 ?_
      refine J_goto (pc := 111) X (tgt := 40) dX3_strikeLetters_111 rfl ?_
      refine J_sub [2, 3, 4, 5, 1, 6, 7, 0] rfl ?_
      exact hself _ _ _ _ hq
    · have hq := ite_t hq c14
      refine J_aload_n (pc := 87) X (j := 1) (i := 0) rfl rfl dX3_strikeLetters_87 ?_
      refine J_getF (pc := 88) X (b := 120) ly113 fl_3_34 rfl dX3_strikeLetters_88 ?_
      refine J_aload_n (pc := 91) X (j := 1) (i := 0) rfl rfl dX3_strikeLetters_91 ?_
      refine J_getI (pc := 92) X ly113 fl_3_132 dX3_strikeLetters_92 ?_
      refine J_iload (pc := 95) X (j := 8) rfl dX3_strikeLetters_95 ?_
      obtain ⟨g15, hq⟩ := gd hq
      refine J_iastore (pc := 97) X ly120 g15 dX3_strikeLetters_97 ?_
      refine J_ltH hq (fun h16 hq => ?_)
      refine J_aload_n (pc := 98) X (j := 1) (i := 0) rfl rfl dX3_strikeLetters_98 ?_
      refine J_dup (pc := 99) X rfl dX3_strikeLetters_99 ?_
      refine J_getI (pc := 100) X ly113 fl_3_132 dX3_strikeLetters_100 ?_
      refine J_iconst (pc := 103) X (v := 1) (by decide) dX3_strikeLetters_103 ?_
      refine J_iadd (pc := 104) X dX3_strikeLetters_104 ?_
      refine J_putI (pc := 105) X ly113 fp_3_132 dX3_strikeLetters_105 ?_
      refine J_ltH hq (fun h17 hq => ?_)
      refine J_iinc (pc := 108) X (j := 7) (v := (-1)) (L' := [(7, .inl (x7 + (-1))), (4, .inl v10), (0, .inr (.inr 113)), (1, .inr (.inr x1)), (2, .inr (.inr x2)), (3, .inl x3), (5, .inl x5), (6, .inl x6), (8, .inl x8)]) rfl (by decide) (by decide) rfl dX3_strikeLetters_108 ?_
      refine J_goto (pc := 111) X (tgt := 40) dX3_strikeLetters_111 rfl ?_
      refine J_sub [2, 3, 4, 5, 1, 6, 7, 0] rfl ?_
      exact hself _ _ _ _ hq
theorem tF_X3_strikeLetters_40 {κ : Kx} (X : OK κ cX3_strikeLetters 9 (none) "StruckWords$Judge" 2) (x1 : Nat) (x2 : Nat) (x3 : Int32) (x5 : Int32) (x6 : Int32) (k114 : Int32 → Hp → Option Hp) (self : Int32 → Int32 → Hp → Option Hp) (x4 : Int32) (x7 : Int32) (h : Hp) (q : Hp) (lx1 : lay x1 = some (.inl 8)) (lx2 : lay x2 = some (.inl 5)) (hk114 : ∀ (x4 : Int32) (h : Hp) (q : Hp), k114 x4 h = some q → J κ 114 [(0, .inr (.inr 113)), (1, .inr (.inr x1)), (2, .inr (.inr x2)), (3, .inl x3), (4, .inl x4), (5, .inl x5)] [] h (none, q)) (hself : ∀ (x4 : Int32) (x7 : Int32) (h : Hp) (q : Hp), self x4 x7 h = some q → J κ 40 [(0, .inr (.inr 113)), (1, .inr (.inr x1)), (2, .inr (.inr x2)), (3, .inl x3), (4, .inl x4), (5, .inl x5), (6, .inl x6), (7, .inl x7)] [] h (none, q)) (hq : F_X3_strikeLetters_40 x1 x2 x3 x5 x6 k114 self x4 x7 h = some q) : J κ 40 [(0, .inr (.inr 113)), (1, .inr (.inr x1)), (2, .inr (.inr x2)), (3, .inl x3), (4, .inl x4), (5, .inl x5), (6, .inl x6), (7, .inl x7)] [] h (none, q) := by
  delta F_X3_strikeLetters_40 at hq
  refine J_iload (pc := 40) X (j := 7) rfl dX3_strikeLetters_40 ?_
  refine J_if_lt (pc := 42) (tgt := 114) X dX3_strikeLetters_42 rfl (fun c6 => ?_) (fun c6 => ?_)
  · have hq := ite_t hq c6
    refine J_sub [0, 1, 2, 3, 4, 5] rfl ?_
    exact hk114 _ _ _ hq
  · have hq := ite_f hq c6
    refine J_iload (pc := 45) X (j := 6) rfl dX3_strikeLetters_45 ?_
    refine J_iload (pc := 47) X (j := 7) rfl dX3_strikeLetters_47 ?_
    obtain ⟨v8, h7, hc, hq⟩ := bnd_e hq
    refine J_callS (pc := 49) (as := [.inl x6, .inl x7]) (st := []) (st2 := [.inl v8]) (r1 := (some (.inl v8), h7)) (h2 := h7) (ky := 1) X dX3_strikeLetters_49 ca_X9_letterFromLast cz_X9_letterFromLast ml_3_153 (by decide) (m_X9_letterFromLast _ _ _ _ hc) rfl rfl (Nat.le_of_ble_eq_true rfl) rfl rfl ?_
    refine J_istore (pc := 52) X (L' := [(8, .inl v8), (0, .inr (.inr 113)), (1, .inr (.inr x1)), (2, .inr (.inr x2)), (3, .inl x3), (4, .inl x4), (5, .inl x5), (6, .inl x6), (7, .inl x7)]) (by decide) rfl dX3_strikeLetters_52 ?_
    refine J_iload (pc := 54) X (j := 5) rfl dX3_strikeLetters_54 ?_
    refine J_iload (pc := 56) X (j := 0) rfl dX3_strikeLetters_56 ?_
    refine J_if_ne (pc := 58) (tgt := 65) X dX3_strikeLetters_58 rfl (fun c9 => ?_) (fun c9 => ?_)
    · have hq := ite_f hq c9
      refine J_iconst (pc := 65) X (v := 1) (by decide) dX3_strikeLetters_65 ?_
      refine J_sub [1, 2, 3, 4, 6, 7, 8, 0] rfl ?_
      exact tB_X3_strikeLetters_66 X _ _ _ _ _ _ _ _ _ _ _ _ _ lx1 lx2 hk114 hself hq
    · have hq := ite_t hq c9
      refine J_iconst (pc := 61) X (v := 0) (by decide) dX3_strikeLetters_61 ?_
      refine J_goto (pc := 62) X (tgt := 66) dX3_strikeLetters_62 rfl ?_
      refine J_sub [1, 2, 3, 4, 6, 7, 8, 0] rfl ?_
      exact tB_X3_strikeLetters_66 X _ _ _ _ _ _ _ _ _ _ _ _ _ lx1 lx2 hk114 hself hq
theorem tL_X3_strikeLetters_40 {κ : Kx} (X : OK κ cX3_strikeLetters 9 (none) "StruckWords$Judge" 2) (x1 : Nat) (x2 : Nat) (x3 : Int32) (x5 : Int32) (x6 : Int32) (k114 : Int32 → Hp → Option Hp) (N : Nat) (x4 : Int32) (x7 : Int32) (h : Hp) (q : Hp) (lx1 : lay x1 = some (.inl 8)) (lx2 : lay x2 = some (.inl 5)) (hk114 : ∀ (x4 : Int32) (h : Hp) (q : Hp), k114 x4 h = some q → J κ 114 [(0, .inr (.inr 113)), (1, .inr (.inr x1)), (2, .inr (.inr x2)), (3, .inl x3), (4, .inl x4), (5, .inl x5)] [] h (none, q)) (hq : itr3 (F_X3_strikeLetters_40 x1 x2 x3 x5 x6 k114) N x4 x7 h = some q) : J κ 40 [(0, .inr (.inr 113)), (1, .inr (.inr x1)), (2, .inr (.inr x2)), (3, .inl x3), (4, .inl x4), (5, .inl x5), (6, .inl x6), (7, .inl x7)] [] h (none, q) :=
  itr3_ind (fun self hs x4 x7 h q hq => tF_X3_strikeLetters_40 X x1 x2 x3 x5 x6 k114 self x4 x7 h q lx1 lx2 hk114 hs hq) N x4 x7 h q hq
theorem tF_X3_strikeLetters_11 {κ : Kx} (X : OK κ cX3_strikeLetters 9 (none) "StruckWords$Judge" 2) (x1 : Nat) (x2 : Nat) (x3 : Int32) (k120 : Hp → Option Hp) (self : Int32 → Int32 → Hp → Option Hp) (x4 : Int32) (x5 : Int32) (h : Hp) (q : Hp) (lx1 : lay x1 = some (.inl 8)) (lx2 : lay x2 = some (.inl 5)) (hk120 : ∀ (h : Hp) (q : Hp), k120 h = some q → J κ 120 [] [] h (none, q)) (hself : ∀ (x4 : Int32) (x5 : Int32) (h : Hp) (q : Hp), self x4 x5 h = some q → J κ 11 [(0, .inr (.inr 113)), (1, .inr (.inr x1)), (2, .inr (.inr x2)), (3, .inl x3), (4, .inl x4), (5, .inl x5)] [] h (none, q)) (hq : F_X3_strikeLetters_11 x1 x2 x3 k120 self x4 x5 h = some q) : J κ 11 [(0, .inr (.inr 113)), (1, .inr (.inr x1)), (2, .inr (.inr x2)), (3, .inl x3), (4, .inl x4), (5, .inl x5)] [] h (none, q) := by
  delta F_X3_strikeLetters_11 at hq
  refine J_iload (pc := 11) X (j := 5) rfl dX3_strikeLetters_11 ?_
  refine J_aload_n (pc := 13) X (j := 2) (i := 2) rfl rfl dX3_strikeLetters_13 ?_
  refine J_getI (pc := 14) X lx2 fl_3_40 dX3_strikeLetters_14 ?_
  refine J_icmp_ge (pc := 17) (tgt := 120) X dX3_strikeLetters_17 rfl (fun c2 => ?_) (fun c2 => ?_)
  · have hq := ite_t hq c2
    refine J_sub [] rfl ?_
    exact hk120 _ _ hq
  · have hq := ite_f hq c2
    refine J_aload_n (pc := 20) X (j := 1) (i := 1) rfl rfl dX3_strikeLetters_20 ?_
    refine J_getF (pc := 21) X (b := x1 + 1) lx1 fl_3_138 rfl dX3_strikeLetters_21 ?_
    refine J_bipush (pc := 24) X (v := 8) (by decide) dX3_strikeLetters_24 ?_
    refine J_aload_n (pc := 26) X (j := 2) (i := 2) rfl rfl dX3_strikeLetters_26 ?_
    refine J_getF (pc := 27) X (b := x2 + 1) lx2 fl_3_65 rfl dX3_strikeLetters_27 ?_
    refine J_iload (pc := 30) X (j := 5) rfl dX3_strikeLetters_30 ?_
    obtain ⟨g3, hq⟩ := gd hq
    refine J_iaload (pc := 32) X (ly_5_1 lx2) g3 dX3_strikeLetters_32 ?_
    refine J_iadd (pc := 33) X dX3_strikeLetters_33 ?_
    obtain ⟨g4, hq⟩ := gd hq
    refine J_iaload (pc := 34) X (ly_8_1 lx1) g4 dX3_strikeLetters_34 ?_
    refine J_ltI hq (fun v5 hq => ?_)
    refine J_istore (pc := 35) X (L' := [(6, .inl v5), (0, .inr (.inr 113)), (1, .inr (.inr x1)), (2, .inr (.inr x2)), (3, .inl x3), (4, .inl x4), (5, .inl x5)]) (by decide) rfl dX3_strikeLetters_35 ?_
    refine J_iconst (pc := 37) X (v := 5) (by decide) dX3_strikeLetters_37 ?_
    refine J_istore (pc := 38) X (L' := [(7, .inl 5), (6, .inl v5), (0, .inr (.inr 113)), (1, .inr (.inr x1)), (2, .inr (.inr x2)), (3, .inl x3), (4, .inl x4), (5, .inl x5)]) (by decide) rfl dX3_strikeLetters_38 ?_
    refine J_sub [2, 3, 4, 5, 6, 7, 1, 0] rfl ?_
    refine tL_X3_strikeLetters_40 X _ _ _ _ _ _ N0 _ _ _ _ lx1 lx2 ?_ hq
    · intro v19 h18 q hq
      refine J_iinc (pc := 114) X (j := 5) (v := 1) (L' := [(5, .inl (x5 + 1)), (0, .inr (.inr 113)), (1, .inr (.inr x1)), (2, .inr (.inr x2)), (3, .inl x3), (4, .inl v19)]) rfl (by decide) (by decide) rfl dX3_strikeLetters_114 ?_
      refine J_goto (pc := 117) X (tgt := 11) dX3_strikeLetters_117 rfl ?_
      refine J_sub [1, 2, 3, 4, 5, 0] rfl ?_
      exact hself _ _ _ _ hq
theorem tL_X3_strikeLetters_11 {κ : Kx} (X : OK κ cX3_strikeLetters 9 (none) "StruckWords$Judge" 2) (x1 : Nat) (x2 : Nat) (x3 : Int32) (k120 : Hp → Option Hp) (N : Nat) (x4 : Int32) (x5 : Int32) (h : Hp) (q : Hp) (lx1 : lay x1 = some (.inl 8)) (lx2 : lay x2 = some (.inl 5)) (hk120 : ∀ (h : Hp) (q : Hp), k120 h = some q → J κ 120 [] [] h (none, q)) (hq : itr3 (F_X3_strikeLetters_11 x1 x2 x3 k120) N x4 x5 h = some q) : J κ 11 [(0, .inr (.inr 113)), (1, .inr (.inr x1)), (2, .inr (.inr x2)), (3, .inl x3), (4, .inl x4), (5, .inl x5)] [] h (none, q) :=
  itr3_ind (fun self hs x4 x5 h q hq => tF_X3_strikeLetters_11 X x1 x2 x3 k120 self x4 x5 h q lx1 lx2 hk120 hs hq) N x4 x5 h q hq
theorem tf_X3_strikeLetters {κ : Kx} (X : OK κ cX3_strikeLetters 9 (none) "StruckWords$Judge" 2) (x1 : Nat) (x2 : Nat) (x3 : Int32) (h : Hp) (q : Hp) (lx1 : lay x1 = some (.inl 8)) (lx2 : lay x2 = some (.inl 5)) (hq : f_X3_strikeLetters x1 x2 x3 h = some q) : J κ 0 [(0, .inr (.inr 113)), (1, .inr (.inr x1)), (2, .inr (.inr x2)), (3, .inl x3)] [] h (none, q) := by
  delta f_X3_strikeLetters at hq
  refine J_aload_n (pc := 0) X (j := 0) (i := 0) rfl rfl dX3_strikeLetters_0 ?_
  refine J_iconst (pc := 1) X (v := 0) (by decide) dX3_strikeLetters_1 ?_
  refine J_putI (pc := 2) X ly113 fp_3_132 dX3_strikeLetters_2 ?_
  refine J_ltH hq (fun h1 hq => ?_)
  refine J_iconst (pc := 5) X (v := 0) (by decide) dX3_strikeLetters_5 ?_
  refine J_istore (pc := 6) X (L' := [(4, .inl 0), (0, .inr (.inr 113)), (1, .inr (.inr x1)), (2, .inr (.inr x2)), (3, .inl x3)]) (by decide) rfl dX3_strikeLetters_6 ?_
  refine J_iconst (pc := 8) X (v := 0) (by decide) dX3_strikeLetters_8 ?_
  refine J_istore (pc := 9) X (L' := [(5, .inl 0), (4, .inl 0), (0, .inr (.inr 113)), (1, .inr (.inr x1)), (2, .inr (.inr x2)), (3, .inl x3)]) (by decide) rfl dX3_strikeLetters_9 ?_
  refine J_sub [2, 3, 4, 5, 1, 0] rfl ?_
  refine tL_X3_strikeLetters_11 X _ _ _ _ N0 _ _ _ _ lx1 lx2 ?_ hq
  · intro h20 q hq
    obtain rfl := Option.some.inj hq
    exact J_vret (pc := 120) X dX3_strikeLetters_120
theorem m_X3_strikeLetters (x1 : Nat) (x2 : Nat) (x3 : Int32) (h : Hp) (q : Hp) (lx1 : lay x1 = some (.inl 8)) (lx2 : lay x2 = some (.inl 5)) (hq : f_X3_strikeLetters x1 x2 x3 h = some q) : ∀ l w, CT l w yX3_strikeLetters cX3_strikeLetters 9 (none) 2 [.inr (.inr 113), .inr (.inr x1), .inr (.inr x2), .inl x3] h (none, q) :=
  CT_of (L0 := [(0, .inr (.inr 113)), (1, .inr (.inr x1)), (2, .inr (.inr x2)), (3, .inl x3)]) (by decide) rfl (Nat.le_of_ble_eq_true rfl) (fun κ X => tf_X3_strikeLetters X x1 x2 x3 h q lx1 lx2 hq)
theorem tF_X3_waysOfLetters_37 {κ : Kx} (X : OK κ cX3_waysOfLetters 7 (some .long) "StruckWords$Judge" 3) (x1 : Nat) (x4 : Int32) (k108 : Hp → Option (Int64 × Hp)) (self : Int32 → Hp → Option (Int64 × Hp)) (x5 : Int32) (h : Hp) (q : (Int64 × Hp)) (lx1 : lay x1 = some (.inl 8)) (hk108 : ∀ (h : Hp) (q : (Int64 × Hp)), k108 h = some q → J κ 108 [(0, .inr (.inr 113)), (1, .inr (.inr x1)), (4, .inl x4)] [] h (some (.inr (.inl q.1)), q.2)) (hself : ∀ (x5 : Int32) (h : Hp) (q : (Int64 × Hp)), self x5 h = some q → J κ 37 [(0, .inr (.inr 113)), (1, .inr (.inr x1)), (4, .inl x4), (5, .inl x5)] [] h (some (.inr (.inl q.1)), q.2)) (hq : F_X3_waysOfLetters_37 x1 x4 k108 self x5 h = some q) : J κ 37 [(0, .inr (.inr 113)), (1, .inr (.inr x1)), (4, .inl x4), (5, .inl x5)] [] h (some (.inr (.inl q.1)), q.2) := by
  delta F_X3_waysOfLetters_37 at hq
  refine J_iload (pc := 37) X (j := 3) rfl dX3_waysOfLetters_37 ?_
  refine J_aload_n (pc := 39) X (j := 1) (i := 1) rfl rfl dX3_waysOfLetters_39 ?_
  refine J_getI (pc := 40) X lx1 fl_3_135 dX3_waysOfLetters_40 ?_
  refine J_icmp_ge (pc := 43) (tgt := 108) X dX3_waysOfLetters_43 rfl (fun c6 => ?_) (fun c6 => ?_)
  · have hq := ite_t hq c6
    refine J_sub [0, 1, 2] rfl ?_
    exact hk108 _ _ hq
  · have hq := ite_f hq c6
    refine J_iload (pc := 46) X (j := 2) rfl dX3_waysOfLetters_46 ?_
    refine J_aload_n (pc := 48) X (j := 0) (i := 0) rfl rfl dX3_waysOfLetters_48 ?_
    refine J_iload (pc := 49) X (j := 2) rfl dX3_waysOfLetters_49 ?_
    refine J_aload_n (pc := 51) X (j := 1) (i := 1) rfl rfl dX3_waysOfLetters_51 ?_
    refine J_getF (pc := 52) X (b := x1 + 1) lx1 fl_3_138 rfl dX3_waysOfLetters_52 ?_
    refine J_bipush (pc := 55) X (v := 8) (by decide) dX3_waysOfLetters_55 ?_
    refine J_iload (pc := 57) X (j := 3) rfl dX3_waysOfLetters_57 ?_
    refine J_iadd (pc := 59) X dX3_waysOfLetters_59 ?_
    obtain ⟨g7, hq⟩ := gd hq
    refine J_iaload (pc := 60) X (ly_8_1 lx1) g7 dX3_waysOfLetters_60 ?_
    obtain ⟨v9, h8, hc, hq⟩ := bnd_e hq
    refine J_callV (pc := 61) (as := [.inl x4, .inl (h.1 (x1 + 1) ((8 + x5).toNatClampNeg))]) (st := [.inl x4]) (st2 := [.inl v9, .inl x4]) (r1 := (some (.inl v9), h8)) (h2 := h8) (ky := 2) X dX3_waysOfLetters_61 ca_X3_lettersBefore ci_X3_lettersBefore cs_X3_lettersBefore ml_3_141 (by decide) ly113 rfl rfl (m_X3_lettersBefore _ _ _ _ hc) rfl rfl (Nat.le_of_ble_eq_true rfl) rfl rfl ?_
    refine J_isub (pc := 64) X dX3_waysOfLetters_64 ?_
    refine J_ltI hq (fun v10 hq => ?_)
    refine J_istore (pc := 65) X (L' := [(6, .inl v10), (0, .inr (.inr 113)), (1, .inr (.inr x1)), (4, .inl x4), (5, .inl x5)]) (by decide) rfl dX3_waysOfLetters_65 ?_
    refine J_iload (pc := 67) X (j := 0) rfl dX3_waysOfLetters_67 ?_
    refine J_iload (pc := 69) X (j := 3) rfl dX3_waysOfLetters_69 ?_
    refine J_icmp_ge (pc := 71) (tgt := 102) X dX3_waysOfLetters_71 rfl (fun c11 => ?_) (fun c11 => ?_)
    · have hq := ite_t hq c11
      refine J_iinc (pc := 102) X (j := 4) (v := 1) (L' := [(5, .inl (x5 + 1)), (6, .inl v10), (0, .inr (.inr 113)), (1, .inr (.inr x1)), (4, .inl x4)]) rfl (by decide) (by decide) rfl dX3_waysOfLetters_102 ?_
      refine J_goto (pc := 105) X (tgt := 37) dX3_waysOfLetters_105 rfl ?_
      refine J_sub [2, 3, 4, 0] rfl ?_
      exact hself _ _ _ hq
    · have hq := ite_f hq c11
      refine J_aload_n (pc := 74) X (j := 1) (i := 0) rfl rfl dX3_waysOfLetters_74 ?_
      refine J_getF (pc := 75) X (b := 121) ly113 fl_3_37 rfl dX3_waysOfLetters_75 ?_
      refine J_iload (pc := 78) X (j := 3) rfl dX3_waysOfLetters_78 ?_
      refine J_ldc2 (pc := 80) X cl_3_145 dX3_waysOfLetters_80 ?_
      refine J_aload_n (pc := 83) X (j := 1) (i := 0) rfl rfl dX3_waysOfLetters_83 ?_
      refine J_getF (pc := 84) X (b := 121) ly113 fl_3_37 rfl dX3_waysOfLetters_84 ?_
      refine J_iload (pc := 87) X (j := 3) rfl dX3_waysOfLetters_87 ?_
      obtain ⟨g12, hq⟩ := gd hq
      refine J_laload (pc := 89) X ly121 g12 dX3_waysOfLetters_89 ?_
      refine J_aload_n (pc := 90) X (j := 1) (i := 0) rfl rfl dX3_waysOfLetters_90 ?_
      refine J_getF (pc := 91) X (b := 121) ly113 fl_3_37 rfl dX3_waysOfLetters_91 ?_
      refine J_iload (pc := 94) X (j := 0) rfl dX3_waysOfLetters_94 ?_
      obtain ⟨g13, hq⟩ := gd hq
      refine J_laload (pc := 96) X ly121 g13 dX3_waysOfLetters_96 ?_
      refine J_ladd (pc := 97) X dX3_waysOfLetters_97 ?_
      refine J_mminL (pc := 98) X ml_3_147 dX3_waysOfLetters_98 (Nat.le_of_ble_eq_true rfl) ?_
      obtain ⟨g14, hq⟩ := gd hq
      refine J_lastore (pc := 101) X ly121 g14 dX3_waysOfLetters_101 ?_
      refine J_ltH hq (fun h15 hq => ?_)
      refine J_iinc (pc := 102) X (j := 4) (v := 1) (L' := [(5, .inl (x5 + 1)), (6, .inl v10), (0, .inr (.inr 113)), (1, .inr (.inr x1)), (4, .inl x4)]) rfl (by decide) (by decide) rfl dX3_waysOfLetters_102 ?_
      refine J_goto (pc := 105) X (tgt := 37) dX3_waysOfLetters_105 rfl ?_
      refine J_sub [2, 3, 4, 0] rfl ?_
      exact hself _ _ _ hq
theorem tL_X3_waysOfLetters_37 {κ : Kx} (X : OK κ cX3_waysOfLetters 7 (some .long) "StruckWords$Judge" 3) (x1 : Nat) (x4 : Int32) (k108 : Hp → Option (Int64 × Hp)) (N : Nat) (x5 : Int32) (h : Hp) (q : (Int64 × Hp)) (lx1 : lay x1 = some (.inl 8)) (hk108 : ∀ (h : Hp) (q : (Int64 × Hp)), k108 h = some q → J κ 108 [(0, .inr (.inr 113)), (1, .inr (.inr x1)), (4, .inl x4)] [] h (some (.inr (.inl q.1)), q.2)) (hq : itr2 (F_X3_waysOfLetters_37 x1 x4 k108) N x5 h = some q) : J κ 37 [(0, .inr (.inr 113)), (1, .inr (.inr x1)), (4, .inl x4), (5, .inl x5)] [] h (some (.inr (.inl q.1)), q.2) :=
  itr2_ind (fun self hs x5 h q hq => tF_X3_waysOfLetters_37 X x1 x4 k108 self x5 h q lx1 hk108 hs hq) N x5 h q hq
theorem tF_X3_waysOfLetters_17 {κ : Kx} (X : OK κ cX3_waysOfLetters 7 (some .long) "StruckWords$Judge" 3) (x1 : Nat) (k114 : Hp → Option (Int64 × Hp)) (self : Int32 → Hp → Option (Int64 × Hp)) (x4 : Int32) (h : Hp) (q : (Int64 × Hp)) (lx1 : lay x1 = some (.inl 8)) (hk114 : ∀ (h : Hp) (q : (Int64 × Hp)), k114 h = some q → J κ 114 [(0, .inr (.inr 113))] [] h (some (.inr (.inl q.1)), q.2)) (hself : ∀ (x4 : Int32) (h : Hp) (q : (Int64 × Hp)), self x4 h = some q → J κ 17 [(0, .inr (.inr 113)), (1, .inr (.inr x1)), (4, .inl x4)] [] h (some (.inr (.inl q.1)), q.2)) (hq : F_X3_waysOfLetters_17 x1 k114 self x4 h = some q) : J κ 17 [(0, .inr (.inr 113)), (1, .inr (.inr x1)), (4, .inl x4)] [] h (some (.inr (.inl q.1)), q.2) := by
  delta F_X3_waysOfLetters_17 at hq
  refine J_iload (pc := 17) X (j := 2) rfl dX3_waysOfLetters_17 ?_
  refine J_aload_n (pc := 19) X (j := 0) (i := 0) rfl rfl dX3_waysOfLetters_19 ?_
  refine J_getI (pc := 20) X ly113 fl_3_132 dX3_waysOfLetters_20 ?_
  refine J_icmp_gt (pc := 23) (tgt := 114) X dX3_waysOfLetters_23 rfl (fun c3 => ?_) (fun c3 => ?_)
  · have hq := ite_t hq c3
    refine J_sub [0] rfl ?_
    exact hk114 _ _ hq
  · have hq := ite_f hq c3
    refine J_aload_n (pc := 26) X (j := 0) (i := 0) rfl rfl dX3_waysOfLetters_26 ?_
    refine J_getF (pc := 27) X (b := 121) ly113 fl_3_37 rfl dX3_waysOfLetters_27 ?_
    refine J_iload (pc := 30) X (j := 2) rfl dX3_waysOfLetters_30 ?_
    refine J_lconst (pc := 32) X (v := 0) (by decide) dX3_waysOfLetters_32 ?_
    obtain ⟨g4, hq⟩ := gd hq
    refine J_lastore (pc := 33) X ly121 g4 dX3_waysOfLetters_33 ?_
    refine J_ltH hq (fun h5 hq => ?_)
    refine J_iconst (pc := 34) X (v := 0) (by decide) dX3_waysOfLetters_34 ?_
    refine J_istore (pc := 35) X (L' := [(5, .inl 0), (0, .inr (.inr 113)), (1, .inr (.inr x1)), (4, .inl x4)]) (by decide) rfl dX3_waysOfLetters_35 ?_
    refine J_sub [1, 2, 3, 0] rfl ?_
    refine tL_X3_waysOfLetters_37 X _ _ _ N0 _ _ _ lx1 ?_ hq
    · intro h16 q hq
      refine J_iinc (pc := 108) X (j := 2) (v := 1) (L' := [(4, .inl (x4 + 1)), (0, .inr (.inr 113)), (1, .inr (.inr x1))]) rfl (by decide) (by decide) rfl dX3_waysOfLetters_108 ?_
      refine J_goto (pc := 111) X (tgt := 17) dX3_waysOfLetters_111 rfl ?_
      refine J_sub [1, 2, 0] rfl ?_
      exact hself _ _ _ hq
theorem tL_X3_waysOfLetters_17 {κ : Kx} (X : OK κ cX3_waysOfLetters 7 (some .long) "StruckWords$Judge" 3) (x1 : Nat) (k114 : Hp → Option (Int64 × Hp)) (N : Nat) (x4 : Int32) (h : Hp) (q : (Int64 × Hp)) (lx1 : lay x1 = some (.inl 8)) (hk114 : ∀ (h : Hp) (q : (Int64 × Hp)), k114 h = some q → J κ 114 [(0, .inr (.inr 113))] [] h (some (.inr (.inl q.1)), q.2)) (hq : itr2 (F_X3_waysOfLetters_17 x1 k114) N x4 h = some q) : J κ 17 [(0, .inr (.inr 113)), (1, .inr (.inr x1)), (4, .inl x4)] [] h (some (.inr (.inl q.1)), q.2) :=
  itr2_ind (fun self hs x4 h q hq => tF_X3_waysOfLetters_17 X x1 k114 self x4 h q lx1 hk114 hs hq) N x4 h q hq
theorem tf_X3_waysOfLetters {κ : Kx} (X : OK κ cX3_waysOfLetters 7 (some .long) "StruckWords$Judge" 3) (x1 : Nat) (x2 : Nat) (x3 : Int32) (h : Hp) (q : (Int64 × Hp)) (lx1 : lay x1 = some (.inl 8)) (lx2 : lay x2 = some (.inl 5)) (hq : f_X3_waysOfLetters x1 x2 x3 h = some q) : J κ 0 [(0, .inr (.inr 113)), (1, .inr (.inr x1)), (2, .inr (.inr x2)), (3, .inl x3)] [] h (some (.inr (.inl q.1)), q.2) := by
  delta f_X3_waysOfLetters at hq
  refine J_aload_n (pc := 0) X (j := 0) (i := 0) rfl rfl dX3_waysOfLetters_0 ?_
  refine J_aload_n (pc := 1) X (j := 1) (i := 1) rfl rfl dX3_waysOfLetters_1 ?_
  refine J_aload_n (pc := 2) X (j := 2) (i := 2) rfl rfl dX3_waysOfLetters_2 ?_
  refine J_iload_n (pc := 3) X (j := 3) (i := 3) rfl rfl dX3_waysOfLetters_3 ?_
  obtain ⟨h1, hc, hq⟩ := bnv_e hq
  refine J_callV (pc := 4) (as := [.inr (.inr x1), .inr (.inr x2), .inl x3]) (st := []) (st2 := []) (r1 := (none, h1)) (h2 := h1) (ky := 2) X dX3_waysOfLetters_4 ca_X3_strikeLetters ci_X3_strikeLetters cs_X3_strikeLetters ml_3_128 (by decide) ly113 rfl rfl (m_X3_strikeLetters _ _ _ _ _ lx1 lx2 hc) rfl rfl (Nat.le_of_ble_eq_true rfl) rfl rfl ?_
  refine J_aload_n (pc := 7) X (j := 0) (i := 0) rfl rfl dX3_waysOfLetters_7 ?_
  refine J_getF (pc := 8) X (b := 121) ly113 fl_3_37 rfl dX3_waysOfLetters_8 ?_
  refine J_iconst (pc := 11) X (v := 0) (by decide) dX3_waysOfLetters_11 ?_
  refine J_lconst (pc := 12) X (v := 1) (by decide) dX3_waysOfLetters_12 ?_
  refine J_lastore (pc := 13) X ly121 (by decide) dX3_waysOfLetters_13 ?_
  refine J_ltH hq (fun h2 hq => ?_)
  refine J_iconst (pc := 14) X (v := 1) (by decide) dX3_waysOfLetters_14 ?_
  refine J_istore (pc := 15) X (L' := [(4, .inl 1), (0, .inr (.inr 113)), (1, .inr (.inr x1)), (2, .inr (.inr x2)), (3, .inl x3)]) (by decide) rfl dX3_waysOfLetters_15 ?_
  refine J_sub [1, 2, 0] rfl ?_
  refine tL_X3_waysOfLetters_17 X _ _ N0 _ _ _ lx1 ?_ hq
  · intro h17 q hq
    refine J_aload_n (pc := 114) X (j := 0) (i := 0) rfl rfl dX3_waysOfLetters_114 ?_
    refine J_getF (pc := 115) X (b := 121) ly113 fl_3_37 rfl dX3_waysOfLetters_115 ?_
    refine J_aload_n (pc := 118) X (j := 0) (i := 0) rfl rfl dX3_waysOfLetters_118 ?_
    refine J_getI (pc := 119) X ly113 fl_3_132 dX3_waysOfLetters_119 ?_
    obtain ⟨g18, hq⟩ := gd hq
    refine J_laload (pc := 122) X ly121 g18 dX3_waysOfLetters_122 ?_
    obtain rfl := Option.some.inj hq
    exact J_lret (pc := 123) X dX3_waysOfLetters_123
theorem m_X3_waysOfLetters (x1 : Nat) (x2 : Nat) (x3 : Int32) (h : Hp) (q : (Int64 × Hp)) (lx1 : lay x1 = some (.inl 8)) (lx2 : lay x2 = some (.inl 5)) (hq : f_X3_waysOfLetters x1 x2 x3 h = some q) : ∀ l w, CT l w yX3_waysOfLetters cX3_waysOfLetters 7 (some .long) 3 [.inr (.inr 113), .inr (.inr x1), .inr (.inr x2), .inl x3] h (some (.inr (.inl q.1)), q.2) :=
  CT_of (L0 := [(0, .inr (.inr 113)), (1, .inr (.inr x1)), (2, .inr (.inr x2)), (3, .inl x3)]) (by decide) rfl (Nat.le_of_ble_eq_true rfl) (fun κ X => tf_X3_waysOfLetters X x1 x2 x3 h q lx1 lx2 hq)
theorem tF_X4_of_2 {κ : Kx} (X : OK κ cX4_of 2 (some (.object "StruckWords$Keyword")) "StruckWords$Keyword" 1) (x0 : Int32) (k22 : Int32 → Hp → Option (Nat × Hp)) (k34 : Hp → Option (Nat × Hp)) (self : Int32 → Hp → Option (Nat × Hp)) (x1 : Int32) (h : Hp) (q : (Nat × Hp)) (hk22 : ∀ (x1 : Int32) (h : Hp) (q : (Nat × Hp)), k22 x1 h = some q → J κ 22 [(1, .inl x1)] [] h (some (.inr (.inr q.1)), q.2)) (hk34 : ∀ (h : Hp) (q : (Nat × Hp)), k34 h = some q → J κ 34 [] [] h (some (.inr (.inr q.1)), q.2)) (hself : ∀ (x1 : Int32) (h : Hp) (q : (Nat × Hp)), self x1 h = some q → J κ 2 [(0, .inl x0), (1, .inl x1)] [] h (some (.inr (.inr q.1)), q.2)) (hq : F_X4_of_2 x0 k22 k34 self x1 h = some q) : J κ 2 [(0, .inl x0), (1, .inl x1)] [] h (some (.inr (.inr q.1)), q.2) := by
  delta F_X4_of_2 at hq
  refine J_iload_n (pc := 2) X (j := 1) (i := 1) rfl rfl dX4_of_2 ?_
  refine J_getALL (pc := 3) X ka_4_91 dX4_of_3 ?_
  refine J_alenT (pc := 6) X dX4_of_6 ?_
  refine J_icmp_ge (pc := 7) (tgt := 34) X dX4_of_7 rfl (fun c1 => ?_) (fun c1 => ?_)
  · have hq := ite_t hq c1
    refine J_sub [] rfl ?_
    exact hk34 _ _ hq
  · have hq := ite_f hq c1
    refine J_getALL (pc := 10) X ka_4_91 dX4_of_10 ?_
    refine J_iload_n (pc := 13) X (j := 1) (i := 1) rfl rfl dX4_of_13 ?_
    obtain ⟨g2, hq⟩ := gd hq
    refine J_aaloadT (pc := 14) X g2 dX4_of_14 ?_
    refine J_getKc (pc := 15) X (kn_of g2) kc_4_87 dX4_of_15 ?_
    refine J_iload_n (pc := 18) X (j := 0) (i := 0) rfl rfl dX4_of_18 ?_
    refine J_icmp_ne (pc := 19) (tgt := 28) X dX4_of_19 rfl (fun c3 => ?_) (fun c3 => ?_)
    · have hq := ite_f hq c3
      refine J_iinc (pc := 28) X (j := 1) (v := 1) (L' := [(1, .inl (x1 + 1)), (0, .inl x0)]) rfl (by decide) (by decide) rfl dX4_of_28 ?_
      refine J_goto (pc := 31) X (tgt := 2) dX4_of_31 rfl ?_
      refine J_sub [1, 0] rfl ?_
      exact hself _ _ _ hq
    · have hq := ite_t hq c3
      refine J_sub [1] rfl ?_
      exact hk22 _ _ _ hq
theorem tL_X4_of_2 {κ : Kx} (X : OK κ cX4_of 2 (some (.object "StruckWords$Keyword")) "StruckWords$Keyword" 1) (x0 : Int32) (k22 : Int32 → Hp → Option (Nat × Hp)) (k34 : Hp → Option (Nat × Hp)) (N : Nat) (x1 : Int32) (h : Hp) (q : (Nat × Hp)) (hk22 : ∀ (x1 : Int32) (h : Hp) (q : (Nat × Hp)), k22 x1 h = some q → J κ 22 [(1, .inl x1)] [] h (some (.inr (.inr q.1)), q.2)) (hk34 : ∀ (h : Hp) (q : (Nat × Hp)), k34 h = some q → J κ 34 [] [] h (some (.inr (.inr q.1)), q.2)) (hq : itr2 (F_X4_of_2 x0 k22 k34) N x1 h = some q) : J κ 2 [(0, .inl x0), (1, .inl x1)] [] h (some (.inr (.inr q.1)), q.2) :=
  itr2_ind (fun self hs x1 h q hq => tF_X4_of_2 X x0 k22 k34 self x1 h q hk22 hk34 hs hq) N x1 h q hq
theorem tf_X4_of {κ : Kx} (X : OK κ cX4_of 2 (some (.object "StruckWords$Keyword")) "StruckWords$Keyword" 1) (x0 : Int32) (h : Hp) (q : (Nat × Hp)) (hq : f_X4_of x0 h = some q) : J κ 0 [(0, .inl x0)] [] h (some (.inr (.inr q.1)), q.2) := by
  delta f_X4_of at hq
  refine J_iconst (pc := 0) X (v := 0) (by decide) dX4_of_0 ?_
  refine J_istore_n (pc := 1) X (L' := [(1, .inl 0), (0, .inl x0)]) (i := 1) rfl (by decide) rfl dX4_of_1 ?_
  refine J_sub [1, 0] rfl ?_
  refine tL_X4_of_2 X _ _ _ N0 _ _ _ ?_ ?_ hq
  · intro v5 h4 q hq
    refine J_getALL (pc := 22) X ka_4_91 dX4_of_22 ?_
    refine J_iload_n (pc := 25) X (j := 0) (i := 1) rfl rfl dX4_of_25 ?_
    obtain ⟨g6, hq⟩ := gd hq
    refine J_aaloadT (pc := 26) X g6 dX4_of_26 ?_
    obtain rfl := Option.some.inj hq
    exact J_aret (pc := 27) X (Or.inl ⟨_, rfl⟩) dX4_of_27
  · intro h7 q hq
    refine J_null (pc := 34) X dX4_of_34 ?_
    obtain rfl := Option.some.inj hq
    exact J_aret (pc := 35) X (Or.inl ⟨_, rfl⟩) dX4_of_35
theorem m_X4_of (x0 : Int32) (h : Hp) (q : (Nat × Hp)) (hq : f_X4_of x0 h = some q) : ∀ l w, CT l w yX4_of cX4_of 2 (some (.object "StruckWords$Keyword")) 1 [.inl x0] h (some (.inr (.inr q.1)), q.2) :=
  CT_of (L0 := [(0, .inl x0)]) (by decide) rfl (Nat.le_of_ble_eq_true rfl) (fun κ X => tf_X4_of X x0 h q  hq)
