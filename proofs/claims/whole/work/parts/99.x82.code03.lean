theorem tf_X10_copyFrom {κ : Kx} (X : OK κ cX10_copyFrom 2 (none) "StruckWords$Tongue" 3) (x0 : Nat) (x1 : Nat) (h : Hp) (q : Hp) (lx0 : lay x0 = some (.inl 8)) (lx1 : lay x1 = some (.inl 8)) (hq : f_X10_copyFrom x0 x1 h = some q) : J κ 0 [(0, .inr (.inr x0)), (1, .inr (.inr x1))] [] h (none, q) := by
  delta f_X10_copyFrom at hq
  refine J_aload_n (pc := 0) X (j := 0) (i := 0) rfl rfl dX10_copyFrom_0 ?_
  refine J_aload_n (pc := 1) X (j := 1) (i := 1) rfl rfl dX10_copyFrom_1 ?_
  refine J_getI (pc := 2) X lx1 fl_10_50 dX10_copyFrom_2 ?_
  refine J_putI (pc := 5) X lx0 fp_10_50 dX10_copyFrom_5 ?_
  refine J_ltH hq (fun h1 hq => ?_)
  refine J_aload_n (pc := 8) X (j := 0) (i := 0) rfl rfl dX10_copyFrom_8 ?_
  refine J_aload_n (pc := 9) X (j := 1) (i := 1) rfl rfl dX10_copyFrom_9 ?_
  refine J_getI (pc := 10) X lx1 fl_10_54 dX10_copyFrom_10 ?_
  refine J_putI (pc := 13) X lx0 fp_10_54 dX10_copyFrom_13 ?_
  refine J_ltH hq (fun h2 hq => ?_)
  refine J_aload_n (pc := 16) X (j := 0) (i := 0) rfl rfl dX10_copyFrom_16 ?_
  refine J_aload_n (pc := 17) X (j := 1) (i := 1) rfl rfl dX10_copyFrom_17 ?_
  refine J_getI (pc := 18) X lx1 fl_10_57 dX10_copyFrom_18 ?_
  refine J_putI (pc := 21) X lx0 fp_10_57 dX10_copyFrom_21 ?_
  refine J_ltH hq (fun h3 hq => ?_)
  refine J_aload_n (pc := 24) X (j := 1) (i := 1) rfl rfl dX10_copyFrom_24 ?_
  refine J_getF (pc := 25) X (b := x1 + 1) lx1 fl_10_11 rfl dX10_copyFrom_25 ?_
  refine J_iconst (pc := 28) X (v := 0) (by decide) dX10_copyFrom_28 ?_
  refine J_aload_n (pc := 29) X (j := 0) (i := 0) rfl rfl dX10_copyFrom_29 ?_
  refine J_getF (pc := 30) X (b := x0 + 1) lx0 fl_10_11 rfl dX10_copyFrom_30 ?_
  refine J_iconst (pc := 33) X (v := 0) (by decide) dX10_copyFrom_33 ?_
  refine J_aload_n (pc := 34) X (j := 0) (i := 0) rfl rfl dX10_copyFrom_34 ?_
  refine J_getF (pc := 35) X (b := x0 + 1) lx0 fl_10_11 rfl dX10_copyFrom_35 ?_
  refine J_alen (pc := 38) X (v := 16) (ly_8_1 lx0) (by decide) rfl dX10_copyFrom_38 ?_
  obtain ⟨g4, hq⟩ := gd hq
  refine J_copyI (pc := 39) X ml_10_80 (ly_8_1 lx1) (ly_8_1 lx0) g4 dX10_copyFrom_39 (Nat.le_of_ble_eq_true rfl) ?_
  refine J_ltH hq (fun h5 hq => ?_)
  refine J_aload_n (pc := 42) X (j := 0) (i := 0) rfl rfl dX10_copyFrom_42 ?_
  refine J_getF (pc := 43) X (b := x0 + 2) lx0 fl_10_18 rfl dX10_copyFrom_43 ?_
  refine J_aload_n (pc := 46) X (j := 1) (i := 1) rfl rfl dX10_copyFrom_46 ?_
  refine J_getF (pc := 47) X (b := x1 + 2) lx1 fl_10_18 rfl dX10_copyFrom_47 ?_
  refine J_getI (pc := 50) X (ly_8_2 lx1) fl_10_86 dX10_copyFrom_50 ?_
  refine J_aload_n (pc := 53) X (j := 1) (i := 1) rfl rfl dX10_copyFrom_53 ?_
  refine J_getF (pc := 54) X (b := x1 + 2) lx1 fl_10_18 rfl dX10_copyFrom_54 ?_
  refine J_getI (pc := 57) X (ly_8_2 lx1) fl_10_89 dX10_copyFrom_57 ?_
  obtain ⟨h6, hc, hq⟩ := bnv_e hq
  refine J_callV (pc := 60) (as := [.inl (h5.1 (x1 + 2) 0), .inl (h5.1 (x1 + 2) 1)]) (st := []) (st2 := []) (r1 := (none, h6)) (h2 := h6) (ky := 1) X dX10_copyFrom_60 ca_X1_tell ci_X1_tell cs_X1_tell ml_10_60 (by decide) (ly_8_2 lx0) rfl rfl (m_X1_tell _ _ _ _ _ (ly_8_2 lx0) hc) rfl rfl (Nat.le_of_ble_eq_true rfl) rfl rfl ?_
  refine J_aload_n (pc := 63) X (j := 1) (i := 1) rfl rfl dX10_copyFrom_63 ?_
  refine J_getF (pc := 64) X (b := x1 + 3) lx1 fl_10_22 rfl dX10_copyFrom_64 ?_
  refine J_iconst (pc := 67) X (v := 0) (by decide) dX10_copyFrom_67 ?_
  refine J_aload_n (pc := 68) X (j := 0) (i := 0) rfl rfl dX10_copyFrom_68 ?_
  refine J_getF (pc := 69) X (b := x0 + 3) lx0 fl_10_22 rfl dX10_copyFrom_69 ?_
  refine J_iconst (pc := 72) X (v := 0) (by decide) dX10_copyFrom_72 ?_
  refine J_aload_n (pc := 73) X (j := 0) (i := 0) rfl rfl dX10_copyFrom_73 ?_
  refine J_getF (pc := 74) X (b := x0 + 3) lx0 fl_10_22 rfl dX10_copyFrom_74 ?_
  refine J_alen (pc := 77) X (v := 6) (ly_8_3 lx0) (by decide) rfl dX10_copyFrom_77 ?_
  obtain ⟨g7, hq⟩ := gd hq
  refine J_copyI (pc := 78) X ml_10_80 (ly_8_3 lx1) (ly_8_3 lx0) g7 dX10_copyFrom_78 (Nat.le_of_ble_eq_true rfl) ?_
  refine J_ltH hq (fun h8 hq => ?_)
  refine J_aload_n (pc := 81) X (j := 1) (i := 1) rfl rfl dX10_copyFrom_81 ?_
  refine J_getF (pc := 82) X (b := x1 + 4) lx1 fl_10_25 rfl dX10_copyFrom_82 ?_
  refine J_iconst (pc := 85) X (v := 0) (by decide) dX10_copyFrom_85 ?_
  refine J_aload_n (pc := 86) X (j := 0) (i := 0) rfl rfl dX10_copyFrom_86 ?_
  refine J_getF (pc := 87) X (b := x0 + 4) lx0 fl_10_25 rfl dX10_copyFrom_87 ?_
  refine J_iconst (pc := 90) X (v := 0) (by decide) dX10_copyFrom_90 ?_
  refine J_aload_n (pc := 91) X (j := 0) (i := 0) rfl rfl dX10_copyFrom_91 ?_
  refine J_getF (pc := 92) X (b := x0 + 4) lx0 fl_10_25 rfl dX10_copyFrom_92 ?_
  refine J_alen (pc := 95) X (v := 5) (ly_8_4 lx0) (by decide) rfl dX10_copyFrom_95 ?_
  obtain ⟨g9, hq⟩ := gd hq
  refine J_copyL (pc := 96) X ml_10_80 (ly_8_4 lx1) (ly_8_4 lx0) g9 dX10_copyFrom_96 (Nat.le_of_ble_eq_true rfl) ?_
  refine J_ltH hq (fun h10 hq => ?_)
  refine J_aload_n (pc := 99) X (j := 0) (i := 0) rfl rfl dX10_copyFrom_99 ?_
  refine J_aload_n (pc := 100) X (j := 1) (i := 1) rfl rfl dX10_copyFrom_100 ?_
  refine J_getL (pc := 101) X lx1 fl_10_73 dX10_copyFrom_101 ?_
  refine J_putL (pc := 104) X lx0 fp_10_73 dX10_copyFrom_104 ?_
  refine J_ltH hq (fun h11 hq => ?_)
  refine J_aload_n (pc := 107) X (j := 1) (i := 1) rfl rfl dX10_copyFrom_107 ?_
  refine J_getF (pc := 108) X (b := x1 + 5) lx1 fl_10_29 rfl dX10_copyFrom_108 ?_
  refine J_iconst (pc := 111) X (v := 0) (by decide) dX10_copyFrom_111 ?_
  refine J_aload_n (pc := 112) X (j := 0) (i := 0) rfl rfl dX10_copyFrom_112 ?_
  refine J_getF (pc := 113) X (b := x0 + 5) lx0 fl_10_29 rfl dX10_copyFrom_113 ?_
  refine J_iconst (pc := 116) X (v := 0) (by decide) dX10_copyFrom_116 ?_
  refine J_aload_n (pc := 117) X (j := 0) (i := 0) rfl rfl dX10_copyFrom_117 ?_
  refine J_getF (pc := 118) X (b := x0 + 5) lx0 fl_10_29 rfl dX10_copyFrom_118 ?_
  refine J_alen (pc := 121) X (v := 8) (ly_8_5 lx0) (by decide) rfl dX10_copyFrom_121 ?_
  obtain ⟨g12, hq⟩ := gd hq
  refine J_copyI (pc := 122) X ml_10_80 (ly_8_5 lx1) (ly_8_5 lx0) g12 dX10_copyFrom_122 (Nat.le_of_ble_eq_true rfl) ?_
  refine J_ltH hq (fun h13 hq => ?_)
  refine J_aload_n (pc := 125) X (j := 1) (i := 1) rfl rfl dX10_copyFrom_125 ?_
  refine J_getF (pc := 126) X (b := x1 + 6) lx1 fl_10_32 rfl dX10_copyFrom_126 ?_
  refine J_iconst (pc := 129) X (v := 0) (by decide) dX10_copyFrom_129 ?_
  refine J_aload_n (pc := 130) X (j := 0) (i := 0) rfl rfl dX10_copyFrom_130 ?_
  refine J_getF (pc := 131) X (b := x0 + 6) lx0 fl_10_32 rfl dX10_copyFrom_131 ?_
  refine J_iconst (pc := 134) X (v := 0) (by decide) dX10_copyFrom_134 ?_
  refine J_aload_n (pc := 135) X (j := 0) (i := 0) rfl rfl dX10_copyFrom_135 ?_
  refine J_getF (pc := 136) X (b := x0 + 6) lx0 fl_10_32 rfl dX10_copyFrom_136 ?_
  refine J_alen (pc := 139) X (v := 8) (ly_8_6 lx0) (by decide) rfl dX10_copyFrom_139 ?_
  obtain ⟨g14, hq⟩ := gd hq
  refine J_copyI (pc := 140) X ml_10_80 (ly_8_6 lx1) (ly_8_6 lx0) g14 dX10_copyFrom_140 (Nat.le_of_ble_eq_true rfl) ?_
  refine J_ltH hq (fun h15 hq => ?_)
  refine J_aload_n (pc := 143) X (j := 1) (i := 1) rfl rfl dX10_copyFrom_143 ?_
  refine J_getF (pc := 144) X (b := x1 + 7) lx1 fl_10_35 rfl dX10_copyFrom_144 ?_
  refine J_iconst (pc := 147) X (v := 0) (by decide) dX10_copyFrom_147 ?_
  refine J_aload_n (pc := 148) X (j := 0) (i := 0) rfl rfl dX10_copyFrom_148 ?_
  refine J_getF (pc := 149) X (b := x0 + 7) lx0 fl_10_35 rfl dX10_copyFrom_149 ?_
  refine J_iconst (pc := 152) X (v := 0) (by decide) dX10_copyFrom_152 ?_
  refine J_aload_n (pc := 153) X (j := 0) (i := 0) rfl rfl dX10_copyFrom_153 ?_
  refine J_getF (pc := 154) X (b := x0 + 7) lx0 fl_10_35 rfl dX10_copyFrom_154 ?_
  refine J_alen (pc := 157) X (v := 8) (ly_8_7 lx0) (by decide) rfl dX10_copyFrom_157 ?_
  obtain ⟨g16, hq⟩ := gd hq
  refine J_copyI (pc := 158) X ml_10_80 (ly_8_7 lx1) (ly_8_7 lx0) g16 dX10_copyFrom_158 (Nat.le_of_ble_eq_true rfl) ?_
  refine J_ltH hq (fun h17 hq => ?_)
  refine J_aload_n (pc := 161) X (j := 0) (i := 0) rfl rfl dX10_copyFrom_161 ?_
  refine J_aload_n (pc := 162) X (j := 1) (i := 1) rfl rfl dX10_copyFrom_162 ?_
  refine J_getI (pc := 163) X lx1 fl_10_77 dX10_copyFrom_163 ?_
  refine J_putI (pc := 166) X lx0 fp_10_77 dX10_copyFrom_166 ?_
  refine J_ltH hq (fun h18 hq => ?_)
  refine J_aload_n (pc := 169) X (j := 1) (i := 1) rfl rfl dX10_copyFrom_169 ?_
  refine J_getF (pc := 170) X (b := x1 + 8) lx1 fl_10_38 rfl dX10_copyFrom_170 ?_
  refine J_iconst (pc := 173) X (v := 0) (by decide) dX10_copyFrom_173 ?_
  refine J_aload_n (pc := 174) X (j := 0) (i := 0) rfl rfl dX10_copyFrom_174 ?_
  refine J_getF (pc := 175) X (b := x0 + 8) lx0 fl_10_38 rfl dX10_copyFrom_175 ?_
  refine J_iconst (pc := 178) X (v := 0) (by decide) dX10_copyFrom_178 ?_
  refine J_aload_n (pc := 179) X (j := 0) (i := 0) rfl rfl dX10_copyFrom_179 ?_
  refine J_getF (pc := 180) X (b := x0 + 8) lx0 fl_10_38 rfl dX10_copyFrom_180 ?_
  refine J_alen (pc := 183) X (v := 8) (ly_8_8 lx0) (by decide) rfl dX10_copyFrom_183 ?_
  obtain ⟨g19, hq⟩ := gd hq
  refine J_copyI (pc := 184) X ml_10_80 (ly_8_8 lx1) (ly_8_8 lx0) g19 dX10_copyFrom_184 (Nat.le_of_ble_eq_true rfl) ?_
  refine J_ltH hq (fun h20 hq => ?_)
  refine J_aload_n (pc := 187) X (j := 1) (i := 1) rfl rfl dX10_copyFrom_187 ?_
  refine J_getF (pc := 188) X (b := x1 + 9) lx1 fl_10_41 rfl dX10_copyFrom_188 ?_
  refine J_iconst (pc := 191) X (v := 0) (by decide) dX10_copyFrom_191 ?_
  refine J_aload_n (pc := 192) X (j := 0) (i := 0) rfl rfl dX10_copyFrom_192 ?_
  refine J_getF (pc := 193) X (b := x0 + 9) lx0 fl_10_41 rfl dX10_copyFrom_193 ?_
  refine J_iconst (pc := 196) X (v := 0) (by decide) dX10_copyFrom_196 ?_
  refine J_aload_n (pc := 197) X (j := 0) (i := 0) rfl rfl dX10_copyFrom_197 ?_
  refine J_getF (pc := 198) X (b := x0 + 9) lx0 fl_10_41 rfl dX10_copyFrom_198 ?_
  refine J_alen (pc := 201) X (v := 320) (ly_8_9 lx0) (by decide) rfl dX10_copyFrom_201 ?_
  obtain ⟨g21, hq⟩ := gd hq
  refine J_copyI (pc := 202) X ml_10_80 (ly_8_9 lx1) (ly_8_9 lx0) g21 dX10_copyFrom_202 (Nat.le_of_ble_eq_true rfl) ?_
  refine J_ltH hq (fun h22 hq => ?_)
  refine J_aload_n (pc := 205) X (j := 1) (i := 1) rfl rfl dX10_copyFrom_205 ?_
  refine J_getF (pc := 206) X (b := x1 + 10) lx1 fl_10_44 rfl dX10_copyFrom_206 ?_
  refine J_iconst (pc := 209) X (v := 0) (by decide) dX10_copyFrom_209 ?_
  refine J_aload_n (pc := 210) X (j := 0) (i := 0) rfl rfl dX10_copyFrom_210 ?_
  refine J_getF (pc := 211) X (b := x0 + 10) lx0 fl_10_44 rfl dX10_copyFrom_211 ?_
  refine J_iconst (pc := 214) X (v := 0) (by decide) dX10_copyFrom_214 ?_
  refine J_aload_n (pc := 215) X (j := 0) (i := 0) rfl rfl dX10_copyFrom_215 ?_
  refine J_getF (pc := 216) X (b := x0 + 10) lx0 fl_10_44 rfl dX10_copyFrom_216 ?_
  refine J_alen (pc := 219) X (v := 1280) (ly_8_10 lx0) (by decide) rfl dX10_copyFrom_219 ?_
  obtain ⟨g23, hq⟩ := gd hq
  refine J_copyI (pc := 220) X ml_10_80 (ly_8_10 lx1) (ly_8_10 lx0) g23 dX10_copyFrom_220 (Nat.le_of_ble_eq_true rfl) ?_
  refine J_ltH hq (fun h24 hq => ?_)
  obtain rfl := Option.some.inj hq
  exact J_vret (pc := 223) X dX10_copyFrom_223
theorem m_X10_copyFrom (x0 : Nat) (x1 : Nat) (h : Hp) (q : Hp) (lx0 : lay x0 = some (.inl 8)) (lx1 : lay x1 = some (.inl 8)) (hq : f_X10_copyFrom x0 x1 h = some q) : ∀ l w, CT l w yX10_copyFrom cX10_copyFrom 2 (none) 3 [.inr (.inr x0), .inr (.inr x1)] h (none, q) :=
  CT_of (L0 := [(0, .inr (.inr x0)), (1, .inr (.inr x1))]) (by decide) rfl (Nat.le_of_ble_eq_true rfl) (fun κ X => tf_X10_copyFrom X x0 x1 h q lx0 lx1 hq)
theorem tf_X5_begin {κ : Kx} (X : OK κ cX5_begin 2 (none) "StruckWords$Matter" 4) (x0 : Nat) (x1 : Nat) (h : Hp) (q : Hp) (lx0 : lay x0 = some (.inl 3)) (lx1 : lay x1 = some (.inl 8)) (hq : f_X5_begin x0 x1 h = some q) : J κ 0 [(0, .inr (.inr x0)), (1, .inr (.inr x1))] [] h (none, q) := by
  delta f_X5_begin at hq
  refine J_aload_n (pc := 0) X (j := 0) (i := 0) rfl rfl dX5_begin_0 ?_
  refine J_getF (pc := 1) X (b := x0 + 1) lx0 fl_5_12 rfl dX5_begin_1 ?_
  refine J_aload_n (pc := 4) X (j := 1) (i := 1) rfl rfl dX5_begin_4 ?_
  obtain ⟨h1, hc, hq⟩ := bnv_e hq
  refine J_callV (pc := 5) (as := [.inr (.inr x1)]) (st := []) (st2 := []) (r1 := (none, h1)) (h2 := h1) (ky := 3) X dX5_begin_5 ca_X10_copyFrom ci_X10_copyFrom cs_X10_copyFrom ml_5_31 (by decide) (ly_3_1 lx0) rfl rfl (m_X10_copyFrom _ _ _ _ (ly_3_1 lx0) lx1 hc) rfl rfl (Nat.le_of_ble_eq_true rfl) rfl rfl ?_
  refine J_aload_n (pc := 8) X (j := 0) (i := 0) rfl rfl dX5_begin_8 ?_
  refine J_getF (pc := 9) X (b := x0 + 12) lx0 fl_5_23 rfl dX5_begin_9 ?_
  refine J_iconst (pc := 12) X (v := 0) (by decide) dX5_begin_12 ?_
  refine J_putI (pc := 13) X (ly_3_12 lx0) fp_5_35 dX5_begin_13 ?_
  refine J_ltH hq (fun h2 hq => ?_)
  refine J_aload_n (pc := 16) X (j := 0) (i := 0) rfl rfl dX5_begin_16 ?_
  refine J_iconst (pc := 17) X (v := 0) (by decide) dX5_begin_17 ?_
  refine J_putI (pc := 18) X lx0 fp_5_39 dX5_begin_18 ?_
  refine J_ltH hq (fun h3 hq => ?_)
  obtain rfl := Option.some.inj hq
  exact J_vret (pc := 21) X dX5_begin_21
theorem m_X5_begin (x0 : Nat) (x1 : Nat) (h : Hp) (q : Hp) (lx0 : lay x0 = some (.inl 3)) (lx1 : lay x1 = some (.inl 8)) (hq : f_X5_begin x0 x1 h = some q) : ∀ l w, CT l w yX5_begin cX5_begin 2 (none) 4 [.inr (.inr x0), .inr (.inr x1)] h (none, q) :=
  CT_of (L0 := [(0, .inr (.inr x0)), (1, .inr (.inr x1))]) (by decide) rfl (Nat.le_of_ble_eq_true rfl) (fun κ X => tf_X5_begin X x0 x1 h q lx0 lx1 hq)
theorem tF_X5_copyFrom_32 {κ : Kx} (X : OK κ cX5_copyFrom 3 (none) "StruckWords$Matter" 4) (x0 : Nat) (x1 : Nat) (k61 : Hp → Option Hp) (self : Int32 → Hp → Option Hp) (x2 : Int32) (h : Hp) (q : Hp) (lx0 : lay x0 = some (.inl 3)) (lx1 : lay x1 = some (.inl 3)) (hk61 : ∀ (h : Hp) (q : Hp), k61 h = some q → J κ 61 [] [] h (none, q)) (hself : ∀ (x2 : Int32) (h : Hp) (q : Hp), self x2 h = some q → J κ 32 [(0, .inr (.inr x0)), (1, .inr (.inr x1)), (2, .inl x2)] [] h (none, q)) (hq : F_X5_copyFrom_32 x0 x1 k61 self x2 h = some q) : J κ 32 [(0, .inr (.inr x0)), (1, .inr (.inr x1)), (2, .inl x2)] [] h (none, q) := by
  delta F_X5_copyFrom_32 at hq
  refine J_iload_n (pc := 32) X (j := 2) (i := 2) rfl rfl dX5_copyFrom_32 ?_
  refine J_aload_n (pc := 33) X (j := 0) (i := 0) rfl rfl dX5_copyFrom_33 ?_
  refine J_getI (pc := 34) X lx0 fl_5_39 dX5_copyFrom_34 ?_
  refine J_icmp_ge (pc := 37) (tgt := 61) X dX5_copyFrom_37 rfl (fun c4 => ?_) (fun c4 => ?_)
  · have hq := ite_t hq c4
    refine J_sub [] rfl ?_
    exact hk61 _ _ hq
  · have hq := ite_f hq c4
    refine J_aload_n (pc := 40) X (j := 0) (i := 0) rfl rfl dX5_copyFrom_40 ?_
    refine J_getF (pc := 41) X (b := x0 + 14) lx0 fl_5_27 rfl dX5_copyFrom_41 ?_
    refine J_iload_n (pc := 44) X (j := 2) (i := 2) rfl rfl dX5_copyFrom_44 ?_
    obtain ⟨g5, hq⟩ := gd hq
    refine J_aaloadR (pc := 45) X (ly_3_14 lx0) g5 dX5_copyFrom_45 ?_
    refine J_aload_n (pc := 46) X (j := 1) (i := 1) rfl rfl dX5_copyFrom_46 ?_
    refine J_getF (pc := 47) X (b := x1 + 14) lx1 fl_5_27 rfl dX5_copyFrom_47 ?_
    refine J_iload_n (pc := 50) X (j := 2) (i := 2) rfl rfl dX5_copyFrom_50 ?_
    obtain ⟨g6, hq⟩ := gd hq
    refine J_aaloadR (pc := 51) X (ly_3_14 lx1) g6 dX5_copyFrom_51 ?_
    obtain ⟨h7, hc, hq⟩ := bnv_e hq
    refine J_callV (pc := 52) (as := [.inr (.inr (x1 + 14 + 1 + 2 * x2.toNatClampNeg))]) (st := []) (st2 := []) (r1 := (none, h7)) (h2 := h7) (ky := 3) X dX5_copyFrom_52 ca_X7_copyFrom ci_X7_copyFrom cs_X7_copyFrom ml_5_42 (by decide) (ly_cl (ly_3_14 lx0) _ (inb_lt g5)) rfl rfl (m_X7_copyFrom _ _ _ _ (ly_cl (ly_3_14 lx0) _ (inb_lt g5)) (ly_cl (ly_3_14 lx1) _ (inb_lt g6)) hc) rfl rfl (Nat.le_of_ble_eq_true rfl) rfl rfl ?_
    refine J_iinc (pc := 55) X (j := 2) (v := 1) (L' := [(2, .inl (x2 + 1)), (0, .inr (.inr x0)), (1, .inr (.inr x1))]) rfl (by decide) (by decide) rfl dX5_copyFrom_55 ?_
    refine J_goto (pc := 58) X (tgt := 32) dX5_copyFrom_58 rfl ?_
    refine J_sub [1, 2, 0] rfl ?_
    exact hself _ _ _ hq
theorem tL_X5_copyFrom_32 {κ : Kx} (X : OK κ cX5_copyFrom 3 (none) "StruckWords$Matter" 4) (x0 : Nat) (x1 : Nat) (k61 : Hp → Option Hp) (N : Nat) (x2 : Int32) (h : Hp) (q : Hp) (lx0 : lay x0 = some (.inl 3)) (lx1 : lay x1 = some (.inl 3)) (hk61 : ∀ (h : Hp) (q : Hp), k61 h = some q → J κ 61 [] [] h (none, q)) (hq : itr2 (F_X5_copyFrom_32 x0 x1 k61) N x2 h = some q) : J κ 32 [(0, .inr (.inr x0)), (1, .inr (.inr x1)), (2, .inl x2)] [] h (none, q) :=
  itr2_ind (fun self hs x2 h q hq => tF_X5_copyFrom_32 X x0 x1 k61 self x2 h q lx0 lx1 hk61 hs hq) N x2 h q hq
theorem tf_X5_copyFrom {κ : Kx} (X : OK κ cX5_copyFrom 3 (none) "StruckWords$Matter" 4) (x0 : Nat) (x1 : Nat) (h : Hp) (q : Hp) (lx0 : lay x0 = some (.inl 3)) (lx1 : lay x1 = some (.inl 3)) (hq : f_X5_copyFrom x0 x1 h = some q) : J κ 0 [(0, .inr (.inr x0)), (1, .inr (.inr x1))] [] h (none, q) := by
  delta f_X5_copyFrom at hq
  refine J_aload_n (pc := 0) X (j := 0) (i := 0) rfl rfl dX5_copyFrom_0 ?_
  refine J_getF (pc := 1) X (b := x0 + 1) lx0 fl_5_12 rfl dX5_copyFrom_1 ?_
  refine J_aload_n (pc := 4) X (j := 1) (i := 1) rfl rfl dX5_copyFrom_4 ?_
  refine J_getF (pc := 5) X (b := x1 + 1) lx1 fl_5_12 rfl dX5_copyFrom_5 ?_
  obtain ⟨h1, hc, hq⟩ := bnv_e hq
  refine J_callV (pc := 8) (as := [.inr (.inr (x1 + 1))]) (st := []) (st2 := []) (r1 := (none, h1)) (h2 := h1) (ky := 3) X dX5_copyFrom_8 ca_X10_copyFrom ci_X10_copyFrom cs_X10_copyFrom ml_5_31 (by decide) (ly_3_1 lx0) rfl rfl (m_X10_copyFrom _ _ _ _ (ly_3_1 lx0) (ly_3_1 lx1) hc) rfl rfl (Nat.le_of_ble_eq_true rfl) rfl rfl ?_
  refine J_aload_n (pc := 11) X (j := 0) (i := 0) rfl rfl dX5_copyFrom_11 ?_
  refine J_getF (pc := 12) X (b := x0 + 12) lx0 fl_5_23 rfl dX5_copyFrom_12 ?_
  refine J_aload_n (pc := 15) X (j := 1) (i := 1) rfl rfl dX5_copyFrom_15 ?_
  refine J_getF (pc := 16) X (b := x1 + 12) lx1 fl_5_23 rfl dX5_copyFrom_16 ?_
  obtain ⟨h2, hc, hq⟩ := bnv_e hq
  refine J_callV (pc := 19) (as := [.inr (.inr (x1 + 12))]) (st := []) (st2 := []) (r1 := (none, h2)) (h2 := h2) (ky := 3) X dX5_copyFrom_19 ca_X7_copyFrom ci_X7_copyFrom cs_X7_copyFrom ml_5_42 (by decide) (ly_3_12 lx0) rfl rfl (m_X7_copyFrom _ _ _ _ (ly_3_12 lx0) (ly_3_12 lx1) hc) rfl rfl (Nat.le_of_ble_eq_true rfl) rfl rfl ?_
  refine J_aload_n (pc := 22) X (j := 0) (i := 0) rfl rfl dX5_copyFrom_22 ?_
  refine J_aload_n (pc := 23) X (j := 1) (i := 1) rfl rfl dX5_copyFrom_23 ?_
  refine J_getI (pc := 24) X lx1 fl_5_39 dX5_copyFrom_24 ?_
  refine J_putI (pc := 27) X lx0 fp_5_39 dX5_copyFrom_27 ?_
  refine J_ltH hq (fun h3 hq => ?_)
  refine J_iconst (pc := 30) X (v := 0) (by decide) dX5_copyFrom_30 ?_
  refine J_istore_n (pc := 31) X (L' := [(2, .inl 0), (0, .inr (.inr x0)), (1, .inr (.inr x1))]) (i := 2) rfl (by decide) rfl dX5_copyFrom_31 ?_
  refine J_sub [1, 2, 0] rfl ?_
  refine tL_X5_copyFrom_32 X _ _ _ N0 _ _ _ lx0 lx1 ?_ hq
  · intro h8 q hq
    obtain rfl := Option.some.inj hq
    exact J_vret (pc := 61) X dX5_copyFrom_61
theorem m_X5_copyFrom (x0 : Nat) (x1 : Nat) (h : Hp) (q : Hp) (lx0 : lay x0 = some (.inl 3)) (lx1 : lay x1 = some (.inl 3)) (hq : f_X5_copyFrom x0 x1 h = some q) : ∀ l w, CT l w yX5_copyFrom cX5_copyFrom 3 (none) 4 [.inr (.inr x0), .inr (.inr x1)] h (none, q) :=
  CT_of (L0 := [(0, .inr (.inr x0)), (1, .inr (.inr x1))]) (by decide) rfl (Nat.le_of_ble_eq_true rfl) (fun κ X => tf_X5_copyFrom X x0 x1 h q lx0 lx1 hq)
theorem tF_X10_clear_60 {κ : Kx} (X : OK κ cX10_clear 2 (none) "StruckWords$Tongue" 2) (x0 : Nat) (k85 : Hp → Option Hp) (self : Int32 → Hp → Option Hp) (x1 : Int32) (h : Hp) (q : Hp) (lx0 : lay x0 = some (.inl 8)) (hk85 : ∀ (h : Hp) (q : Hp), k85 h = some q → J κ 85 [] [] h (none, q)) (hself : ∀ (x1 : Int32) (h : Hp) (q : Hp), self x1 h = some q → J κ 60 [(0, .inr (.inr x0)), (1, .inl x1)] [] h (none, q)) (hq : F_X10_clear_60 x0 k85 self x1 h = some q) : J κ 60 [(0, .inr (.inr x0)), (1, .inl x1)] [] h (none, q) := by
  delta F_X10_clear_60 at hq
  refine J_iload_n (pc := 60) X (j := 1) (i := 1) rfl rfl dX10_clear_60 ?_
  refine J_aload_n (pc := 61) X (j := 0) (i := 0) rfl rfl dX10_clear_61 ?_
  refine J_getF (pc := 62) X (b := x0 + 9) lx0 fl_10_41 rfl dX10_clear_62 ?_
  refine J_alen (pc := 65) X (v := 320) (ly_8_9 lx0) (by decide) rfl dX10_clear_65 ?_
  refine J_icmp_ge (pc := 66) (tgt := 85) X dX10_clear_66 rfl (fun c10 => ?_) (fun c10 => ?_)
  · have hq := ite_t hq c10
    refine J_sub [] rfl ?_
    exact hk85 _ _ hq
  · have hq := ite_f hq c10
    refine J_aload_n (pc := 69) X (j := 0) (i := 0) rfl rfl dX10_clear_69 ?_
    refine J_getF (pc := 70) X (b := x0 + 9) lx0 fl_10_41 rfl dX10_clear_70 ?_
    refine J_iload_n (pc := 73) X (j := 1) (i := 1) rfl rfl dX10_clear_73 ?_
    refine J_iload_n (pc := 74) X (j := 1) (i := 1) rfl rfl dX10_clear_74 ?_
    refine J_bipush (pc := 75) X (v := 8) (by decide) dX10_clear_75 ?_
    refine J_irem (pc := 77) X (by decide) dX10_clear_77 ?_
    obtain ⟨g11, hq⟩ := gd hq
    refine J_iastore (pc := 78) X (ly_8_9 lx0) g11 dX10_clear_78 ?_
    refine J_ltH hq (fun h12 hq => ?_)
    refine J_iinc (pc := 79) X (j := 1) (v := 1) (L' := [(1, .inl (x1 + 1)), (0, .inr (.inr x0))]) rfl (by decide) (by decide) rfl dX10_clear_79 ?_
    refine J_goto (pc := 82) X (tgt := 60) dX10_clear_82 rfl ?_
    refine J_sub [1, 0] rfl ?_
    exact hself _ _ _ hq
theorem tL_X10_clear_60 {κ : Kx} (X : OK κ cX10_clear 2 (none) "StruckWords$Tongue" 2) (x0 : Nat) (k85 : Hp → Option Hp) (N : Nat) (x1 : Int32) (h : Hp) (q : Hp) (lx0 : lay x0 = some (.inl 8)) (hk85 : ∀ (h : Hp) (q : Hp), k85 h = some q → J κ 85 [] [] h (none, q)) (hq : itr2 (F_X10_clear_60 x0 k85) N x1 h = some q) : J κ 60 [(0, .inr (.inr x0)), (1, .inl x1)] [] h (none, q) :=
  itr2_ind (fun self hs x1 h q hq => tF_X10_clear_60 X x0 k85 self x1 h q lx0 hk85 hs hq) N x1 h q hq
theorem tf_X10_clear {κ : Kx} (X : OK κ cX10_clear 2 (none) "StruckWords$Tongue" 2) (x0 : Nat) (h : Hp) (q : Hp) (lx0 : lay x0 = some (.inl 8)) (hq : f_X10_clear x0 h = some q) : J κ 0 [(0, .inr (.inr x0))] [] h (none, q) := by
  delta f_X10_clear at hq
  refine J_aload_n (pc := 0) X (j := 0) (i := 0) rfl rfl dX10_clear_0 ?_
  refine J_iconst (pc := 1) X (v := 0) (by decide) dX10_clear_1 ?_
  refine J_putI (pc := 2) X lx0 fp_10_50 dX10_clear_2 ?_
  refine J_ltH hq (fun h1 hq => ?_)
  refine J_aload_n (pc := 5) X (j := 0) (i := 0) rfl rfl dX10_clear_5 ?_
  refine J_iconst (pc := 6) X (v := 0) (by decide) dX10_clear_6 ?_
  refine J_putI (pc := 7) X lx0 fp_10_54 dX10_clear_7 ?_
  refine J_ltH hq (fun h2 hq => ?_)
  refine J_aload_n (pc := 10) X (j := 0) (i := 0) rfl rfl dX10_clear_10 ?_
  refine J_iconst (pc := 11) X (v := 0) (by decide) dX10_clear_11 ?_
  refine J_putI (pc := 12) X lx0 fp_10_57 dX10_clear_12 ?_
  refine J_ltH hq (fun h3 hq => ?_)
  refine J_aload_n (pc := 15) X (j := 0) (i := 0) rfl rfl dX10_clear_15 ?_
  refine J_getF (pc := 16) X (b := x0 + 2) lx0 fl_10_18 rfl dX10_clear_16 ?_
  refine J_iconst (pc := 19) X (v := 3) (by decide) dX10_clear_19 ?_
  refine J_iconst (pc := 20) X (v := 1) (by decide) dX10_clear_20 ?_
  obtain ⟨h4, hc, hq⟩ := bnv_e hq
  refine J_callV (pc := 21) (as := [.inl 3, .inl 1]) (st := []) (st2 := []) (r1 := (none, h4)) (h2 := h4) (ky := 1) X dX10_clear_21 ca_X1_tell ci_X1_tell cs_X1_tell ml_10_60 (by decide) (ly_8_2 lx0) rfl rfl (m_X1_tell _ _ _ _ _ (ly_8_2 lx0) hc) rfl rfl (Nat.le_of_ble_eq_true rfl) rfl rfl ?_
  refine J_aload_n (pc := 24) X (j := 0) (i := 0) rfl rfl dX10_clear_24 ?_
  refine J_getF (pc := 25) X (b := x0 + 3) lx0 fl_10_22 rfl dX10_clear_25 ?_
  refine J_iconst (pc := 28) X (v := 1) (by decide) dX10_clear_28 ?_
  obtain ⟨h5, hc, hq⟩ := bnv_e hq
  refine J_callS (pc := 29) (as := [.inr (.inr (x0 + 3)), .inl 1]) (st := []) (st2 := []) (r1 := (none, h5)) (h2 := h5) (ky := 1) X dX10_clear_29 ca_J7_fill_53178 cz_J7_fill_53178 ml_10_64 (by decide) (m_J7_fill_53178 _ _ _ _ (aln_of (ly_8_3 lx0)) hc) rfl rfl (Nat.le_of_ble_eq_true rfl) rfl rfl ?_
  refine J_aload_n (pc := 32) X (j := 0) (i := 0) rfl rfl dX10_clear_32 ?_
  refine J_getF (pc := 33) X (b := x0 + 4) lx0 fl_10_25 rfl dX10_clear_33 ?_
  refine J_lconst (pc := 36) X (v := 0) (by decide) dX10_clear_36 ?_
  obtain ⟨h6, hc, hq⟩ := bnv_e hq
  refine J_callS (pc := 37) (as := [.inr (.inr (x0 + 4)), .inr (.inl 0)]) (st := []) (st2 := []) (r1 := (none, h6)) (h2 := h6) (ky := 1) X dX10_clear_37 ca_J7_fill_d0a16 cz_J7_fill_d0a16 ml_10_70 (by decide) (m_J7_fill_d0a16 _ _ _ _ (aln_of (ly_8_4 lx0)) hc) rfl rfl (Nat.le_of_ble_eq_true rfl) rfl rfl ?_
  refine J_aload_n (pc := 40) X (j := 0) (i := 0) rfl rfl dX10_clear_40 ?_
  refine J_lconst (pc := 41) X (v := 0) (by decide) dX10_clear_41 ?_
  refine J_putL (pc := 42) X lx0 fp_10_73 dX10_clear_42 ?_
  refine J_ltH hq (fun h7 hq => ?_)
  refine J_aload_n (pc := 45) X (j := 0) (i := 0) rfl rfl dX10_clear_45 ?_
  refine J_iconst (pc := 46) X (v := 0) (by decide) dX10_clear_46 ?_
  refine J_putI (pc := 47) X lx0 fp_10_77 dX10_clear_47 ?_
  refine J_ltH hq (fun h8 hq => ?_)
  refine J_aload_n (pc := 50) X (j := 0) (i := 0) rfl rfl dX10_clear_50 ?_
  refine J_getF (pc := 51) X (b := x0 + 8) lx0 fl_10_38 rfl dX10_clear_51 ?_
  refine J_iconst (pc := 54) X (v := 0) (by decide) dX10_clear_54 ?_
  obtain ⟨h9, hc, hq⟩ := bnv_e hq
  refine J_callS (pc := 55) (as := [.inr (.inr (x0 + 8)), .inl 0]) (st := []) (st2 := []) (r1 := (none, h9)) (h2 := h9) (ky := 1) X dX10_clear_55 ca_J7_fill_53178 cz_J7_fill_53178 ml_10_64 (by decide) (m_J7_fill_53178 _ _ _ _ (aln_of (ly_8_8 lx0)) hc) rfl rfl (Nat.le_of_ble_eq_true rfl) rfl rfl ?_
  refine J_iconst (pc := 58) X (v := 0) (by decide) dX10_clear_58 ?_
  refine J_istore_n (pc := 59) X (L' := [(1, .inl 0), (0, .inr (.inr x0))]) (i := 1) rfl (by decide) rfl dX10_clear_59 ?_
  refine J_sub [1, 0] rfl ?_
  refine tL_X10_clear_60 X _ _ N0 _ _ _ lx0 ?_ hq
  · intro h13 q hq
    obtain rfl := Option.some.inj hq
    exact J_vret (pc := 85) X dX10_clear_85
theorem m_X10_clear (x0 : Nat) (h : Hp) (q : Hp) (lx0 : lay x0 = some (.inl 8)) (hq : f_X10_clear x0 h = some q) : ∀ l w, CT l w yX10_clear cX10_clear 2 (none) 2 [.inr (.inr x0)] h (none, q) :=
  CT_of (L0 := [(0, .inr (.inr x0))]) (by decide) rfl (Nat.le_of_ble_eq_true rfl) (fun κ X => tf_X10_clear X x0 h q lx0 hq)
theorem tF_X10_madeOfFour_5 {κ : Kx} (X : OK κ cX10_madeOfFour 5 (some .int) "StruckWords$Tongue" 1) (x0 : Nat) (x1 : Int32) (x2 : Int32) (k40 : Int32 → Hp → Option (Int32 × Hp)) (self : Int32 → Int32 → Hp → Option (Int32 × Hp)) (x3 : Int32) (x4 : Int32) (h : Hp) (q : (Int32 × Hp)) (lx0 : lay x0 = some (.inl 8)) (hk40 : ∀ (x3 : Int32) (h : Hp) (q : (Int32 × Hp)), k40 x3 h = some q → J κ 40 [(3, .inl x3)] [] h (some (.inl q.1), q.2)) (hself : ∀ (x3 : Int32) (x4 : Int32) (h : Hp) (q : (Int32 × Hp)), self x3 x4 h = some q → J κ 5 [(0, .inr (.inr x0)), (1, .inl x1), (2, .inl x2), (3, .inl x3), (4, .inl x4)] [] h (some (.inl q.1), q.2)) (hq : F_X10_madeOfFour_5 x0 x1 x2 k40 self x3 x4 h = some q) : J κ 5 [(0, .inr (.inr x0)), (1, .inl x1), (2, .inl x2), (3, .inl x3), (4, .inl x4)] [] h (some (.inl q.1), q.2) := by
  delta F_X10_madeOfFour_5 at hq
  refine J_iload (pc := 5) X (j := 4) rfl dX10_madeOfFour_5 ?_
  refine J_iconst (pc := 7) X (v := 4) (by decide) dX10_madeOfFour_7 ?_
  refine J_icmp_ge (pc := 8) (tgt := 40) X dX10_madeOfFour_8 rfl (fun c1 => ?_) (fun c1 => ?_)
  · have hq := ite_t hq c1
    refine J_sub [3] rfl ?_
    exact hk40 _ _ _ hq
  · have hq := ite_f hq c1
    refine J_iload_n (pc := 11) X (j := 2) (i := 2) rfl rfl dX10_madeOfFour_11 ?_
    refine J_iload (pc := 12) X (j := 4) rfl dX10_madeOfFour_12 ?_
    refine J_ishr (pc := 14) X dX10_madeOfFour_14 ?_
    refine J_iconst (pc := 15) X (v := 1) (by decide) dX10_madeOfFour_15 ?_
    refine J_iand (pc := 16) X dX10_madeOfFour_16 ?_
    refine J_if_eq (pc := 17) (tgt := 34) X dX10_madeOfFour_17 rfl (fun c2 => ?_) (fun c2 => ?_)
    · have hq := ite_t hq c2
      refine J_iinc (pc := 34) X (j := 4) (v := 1) (L' := [(4, .inl (x4 + 1)), (0, .inr (.inr x0)), (1, .inl x1), (2, .inl x2), (3, .inl x3)]) rfl (by decide) (by decide) rfl dX10_madeOfFour_34 ?_
      refine J_goto (pc := 37) X (tgt := 5) dX10_madeOfFour_37 rfl ?_
      refine J_sub [1, 2, 3, 4, 0] rfl ?_
      exact hself _ _ _ _ hq
    · have hq := ite_f hq c2
      refine J_iload_n (pc := 20) X (j := 3) (i := 3) rfl rfl dX10_madeOfFour_20 ?_
      refine J_iconst (pc := 21) X (v := 1) (by decide) dX10_madeOfFour_21 ?_
      refine J_aload_n (pc := 22) X (j := 0) (i := 0) rfl rfl dX10_madeOfFour_22 ?_
      refine J_getF (pc := 23) X (b := x0 + 9) lx0 fl_10_41 rfl dX10_madeOfFour_23 ?_
      refine J_iload_n (pc := 26) X (j := 1) (i := 1) rfl rfl dX10_madeOfFour_26 ?_
      refine J_iload (pc := 27) X (j := 4) rfl dX10_madeOfFour_27 ?_
      refine J_iadd (pc := 29) X dX10_madeOfFour_29 ?_
      obtain ⟨g3, hq⟩ := gd hq
      refine J_iaload (pc := 30) X (ly_8_9 lx0) g3 dX10_madeOfFour_30 ?_
      refine J_ishl (pc := 31) X dX10_madeOfFour_31 ?_
      refine J_ior (pc := 32) X dX10_madeOfFour_32 ?_
      refine J_ltI hq (fun v4 hq => ?_)
      refine J_istore_n (pc := 33) X (L' := [(3, .inl v4), (0, .inr (.inr x0)), (1, .inl x1), (2, .inl x2), (4, .inl x4)]) (i := 3) rfl (by decide) rfl dX10_madeOfFour_33 ?_
      refine J_iinc (pc := 34) X (j := 4) (v := 1) (L' := [(4, .inl (x4 + 1)), (3, .inl v4), (0, .inr (.inr x0)), (1, .inl x1), (2, .inl x2)]) rfl (by decide) (by decide) rfl dX10_madeOfFour_34 ?_
      refine J_goto (pc := 37) X (tgt := 5) dX10_madeOfFour_37 rfl ?_
      refine J_sub [2, 3, 4, 1, 0] rfl ?_
      exact hself _ _ _ _ hq
theorem tL_X10_madeOfFour_5 {κ : Kx} (X : OK κ cX10_madeOfFour 5 (some .int) "StruckWords$Tongue" 1) (x0 : Nat) (x1 : Int32) (x2 : Int32) (k40 : Int32 → Hp → Option (Int32 × Hp)) (N : Nat) (x3 : Int32) (x4 : Int32) (h : Hp) (q : (Int32 × Hp)) (lx0 : lay x0 = some (.inl 8)) (hk40 : ∀ (x3 : Int32) (h : Hp) (q : (Int32 × Hp)), k40 x3 h = some q → J κ 40 [(3, .inl x3)] [] h (some (.inl q.1), q.2)) (hq : itr3 (F_X10_madeOfFour_5 x0 x1 x2 k40) N x3 x4 h = some q) : J κ 5 [(0, .inr (.inr x0)), (1, .inl x1), (2, .inl x2), (3, .inl x3), (4, .inl x4)] [] h (some (.inl q.1), q.2) :=
  itr3_ind (fun self hs x3 x4 h q hq => tF_X10_madeOfFour_5 X x0 x1 x2 k40 self x3 x4 h q lx0 hk40 hs hq) N x3 x4 h q hq
theorem tf_X10_madeOfFour {κ : Kx} (X : OK κ cX10_madeOfFour 5 (some .int) "StruckWords$Tongue" 1) (x0 : Nat) (x1 : Int32) (x2 : Int32) (h : Hp) (q : (Int32 × Hp)) (lx0 : lay x0 = some (.inl 8)) (hq : f_X10_madeOfFour x0 x1 x2 h = some q) : J κ 0 [(0, .inr (.inr x0)), (1, .inl x1), (2, .inl x2)] [] h (some (.inl q.1), q.2) := by
  delta f_X10_madeOfFour at hq
  refine J_iconst (pc := 0) X (v := 0) (by decide) dX10_madeOfFour_0 ?_
  refine J_istore_n (pc := 1) X (L' := [(3, .inl 0), (0, .inr (.inr x0)), (1, .inl x1), (2, .inl x2)]) (i := 3) rfl (by decide) rfl dX10_madeOfFour_1 ?_
  refine J_iconst (pc := 2) X (v := 0) (by decide) dX10_madeOfFour_2 ?_
  refine J_istore (pc := 3) X (L' := [(4, .inl 0), (3, .inl 0), (0, .inr (.inr x0)), (1, .inl x1), (2, .inl x2)]) (by decide) rfl dX10_madeOfFour_3 ?_
  refine J_sub [2, 3, 4, 1, 0] rfl ?_
  refine tL_X10_madeOfFour_5 X _ _ _ _ N0 _ _ _ _ lx0 ?_ hq
  · intro v6 h5 q hq
    refine J_iload_n (pc := 40) X (j := 0) (i := 3) rfl rfl dX10_madeOfFour_40 ?_
    obtain rfl := Option.some.inj hq
    exact J_iret (pc := 41) X dX10_madeOfFour_41
theorem m_X10_madeOfFour (x0 : Nat) (x1 : Int32) (x2 : Int32) (h : Hp) (q : (Int32 × Hp)) (lx0 : lay x0 = some (.inl 8)) (hq : f_X10_madeOfFour x0 x1 x2 h = some q) : ∀ l w, CT l w yX10_madeOfFour cX10_madeOfFour 5 (some .int) 1 [.inr (.inr x0), .inl x1, .inl x2] h (some (.inl q.1), q.2) :=
  CT_of (L0 := [(0, .inr (.inr x0)), (1, .inl x1), (2, .inl x2)]) (by decide) rfl (Nat.le_of_ble_eq_true rfl) (fun κ X => tf_X10_madeOfFour X x0 x1 x2 h q lx0 hq)
theorem tF_X10_settle_10 {κ : Kx} (X : OK κ cX10_settle 3 (none) "StruckWords$Tongue" 2) (x0 : Nat) (x1 : Int32) (k51 : Hp → Option Hp) (self : Int32 → Hp → Option Hp) (x2 : Int32) (h : Hp) (q : Hp) (lx0 : lay x0 = some (.inl 8)) (hk51 : ∀ (h : Hp) (q : Hp), k51 h = some q → J κ 51 [(0, .inr (.inr x0)), (1, .inl x1)] [] h (none, q)) (hself : ∀ (x2 : Int32) (h : Hp) (q : Hp), self x2 h = some q → J κ 10 [(0, .inr (.inr x0)), (1, .inl x1), (2, .inl x2)] [] h (none, q)) (hq : F_X10_settle_10 x0 x1 k51 self x2 h = some q) : J κ 10 [(0, .inr (.inr x0)), (1, .inl x1), (2, .inl x2)] [] h (none, q) := by
  delta F_X10_settle_10 at hq
  refine J_iload_n (pc := 10) X (j := 2) (i := 2) rfl rfl dX10_settle_10 ?_
  refine J_bipush (pc := 11) X (v := 32) (by decide) dX10_settle_11 ?_
  refine J_icmp_ge (pc := 13) (tgt := 51) X dX10_settle_13 rfl (fun c2 => ?_) (fun c2 => ?_)
  · have hq := ite_t hq c2
    refine J_sub [0, 1] rfl ?_
    exact hk51 _ _ hq
  · have hq := ite_f hq c2
    refine J_aload_n (pc := 16) X (j := 0) (i := 0) rfl rfl dX10_settle_16 ?_
    refine J_getF (pc := 17) X (b := x0 + 10) lx0 fl_10_44 rfl dX10_settle_17 ?_
    refine J_iload_n (pc := 20) X (j := 1) (i := 1) rfl rfl dX10_settle_20 ?_
    refine J_bipush (pc := 21) X (v := 32) (by decide) dX10_settle_21 ?_
    refine J_imul (pc := 23) X dX10_settle_23 ?_
    refine J_iload_n (pc := 24) X (j := 2) (i := 2) rfl rfl dX10_settle_24 ?_
    refine J_iadd (pc := 25) X dX10_settle_25 ?_
    refine J_aload_n (pc := 26) X (j := 0) (i := 0) rfl rfl dX10_settle_26 ?_
    refine J_iload_n (pc := 27) X (j := 1) (i := 1) rfl rfl dX10_settle_27 ?_
    refine J_bipush (pc := 28) X (v := 8) (by decide) dX10_settle_28 ?_
    refine J_imul (pc := 30) X dX10_settle_30 ?_
    refine J_iload_n (pc := 31) X (j := 2) (i := 2) rfl rfl dX10_settle_31 ?_
    refine J_iconst (pc := 32) X (v := 4) (by decide) dX10_settle_32 ?_
    refine J_ishr (pc := 33) X dX10_settle_33 ?_
    refine J_iconst (pc := 34) X (v := 4) (by decide) dX10_settle_34 ?_
    refine J_imul (pc := 35) X dX10_settle_35 ?_
    refine J_iadd (pc := 36) X dX10_settle_36 ?_
    refine J_iload_n (pc := 37) X (j := 2) (i := 2) rfl rfl dX10_settle_37 ?_
    refine J_bipush (pc := 38) X (v := 15) (by decide) dX10_settle_38 ?_
    refine J_iand (pc := 40) X dX10_settle_40 ?_
    obtain ⟨v4, h3, hc, hq⟩ := bnd_e hq
    refine J_callV (pc := 41) (as := [.inl ((x1 * 8) + ((jshr x2 4) * 4)), .inl (x2 &&& 15)]) (st := [.inl ((x1 * 32) + x2), .inr (.inr (x0 + 10))]) (st2 := [.inl v4, .inl ((x1 * 32) + x2), .inr (.inr (x0 + 10))]) (r1 := (some (.inl v4), h3)) (h2 := h3) (ky := 1) X dX10_settle_41 ca_X10_madeOfFour ci_X10_madeOfFour cs_X10_madeOfFour ml_10_107 (by decide) lx0 rfl rfl (m_X10_madeOfFour _ _ _ _ _ lx0 hc) rfl rfl (Nat.le_of_ble_eq_true rfl) rfl rfl ?_
    obtain ⟨g5, hq⟩ := gd hq
    refine J_iastore (pc := 44) X (ly_8_10 lx0) g5 dX10_settle_44 ?_
    refine J_ltH hq (fun h6 hq => ?_)
    refine J_iinc (pc := 45) X (j := 2) (v := 1) (L' := [(2, .inl (x2 + 1)), (0, .inr (.inr x0)), (1, .inl x1)]) rfl (by decide) (by decide) rfl dX10_settle_45 ?_
    refine J_goto (pc := 48) X (tgt := 10) dX10_settle_48 rfl ?_
    refine J_sub [1, 2, 0] rfl ?_
    exact hself _ _ _ hq
theorem tL_X10_settle_10 {κ : Kx} (X : OK κ cX10_settle 3 (none) "StruckWords$Tongue" 2) (x0 : Nat) (x1 : Int32) (k51 : Hp → Option Hp) (N : Nat) (x2 : Int32) (h : Hp) (q : Hp) (lx0 : lay x0 = some (.inl 8)) (hk51 : ∀ (h : Hp) (q : Hp), k51 h = some q → J κ 51 [(0, .inr (.inr x0)), (1, .inl x1)] [] h (none, q)) (hq : itr2 (F_X10_settle_10 x0 x1 k51) N x2 h = some q) : J κ 10 [(0, .inr (.inr x0)), (1, .inl x1), (2, .inl x2)] [] h (none, q) :=
  itr2_ind (fun self hs x2 h q hq => tF_X10_settle_10 X x0 x1 k51 self x2 h q lx0 hk51 hs hq) N x2 h q hq
theorem tF_X10_settle_2 {κ : Kx} (X : OK κ cX10_settle 3 (none) "StruckWords$Tongue" 2) (x0 : Nat) (k57 : Hp → Option Hp) (self : Int32 → Hp → Option Hp) (x1 : Int32) (h : Hp) (q : Hp) (lx0 : lay x0 = some (.inl 8)) (hk57 : ∀ (h : Hp) (q : Hp), k57 h = some q → J κ 57 [] [] h (none, q)) (hself : ∀ (x1 : Int32) (h : Hp) (q : Hp), self x1 h = some q → J κ 2 [(0, .inr (.inr x0)), (1, .inl x1)] [] h (none, q)) (hq : F_X10_settle_2 x0 k57 self x1 h = some q) : J κ 2 [(0, .inr (.inr x0)), (1, .inl x1)] [] h (none, q) := by
  delta F_X10_settle_2 at hq
  refine J_iload_n (pc := 2) X (j := 1) (i := 1) rfl rfl dX10_settle_2 ?_
  refine J_bipush (pc := 3) X (v := 40) (by decide) dX10_settle_3 ?_
  refine J_icmp_ge (pc := 5) (tgt := 57) X dX10_settle_5 rfl (fun c1 => ?_) (fun c1 => ?_)
  · have hq := ite_t hq c1
    refine J_sub [] rfl ?_
    exact hk57 _ _ hq
  · have hq := ite_f hq c1
    refine J_iconst (pc := 8) X (v := 0) (by decide) dX10_settle_8 ?_
    refine J_istore_n (pc := 9) X (L' := [(2, .inl 0), (0, .inr (.inr x0)), (1, .inl x1)]) (i := 2) rfl (by decide) rfl dX10_settle_9 ?_
    refine J_sub [1, 2, 0] rfl ?_
    refine tL_X10_settle_10 X _ _ _ N0 _ _ _ lx0 ?_ hq
    · intro h7 q hq
      refine J_iinc (pc := 51) X (j := 1) (v := 1) (L' := [(1, .inl (x1 + 1)), (0, .inr (.inr x0))]) rfl (by decide) (by decide) rfl dX10_settle_51 ?_
      refine J_goto (pc := 54) X (tgt := 2) dX10_settle_54 rfl ?_
      refine J_sub [1, 0] rfl ?_
      exact hself _ _ _ hq
theorem tL_X10_settle_2 {κ : Kx} (X : OK κ cX10_settle 3 (none) "StruckWords$Tongue" 2) (x0 : Nat) (k57 : Hp → Option Hp) (N : Nat) (x1 : Int32) (h : Hp) (q : Hp) (lx0 : lay x0 = some (.inl 8)) (hk57 : ∀ (h : Hp) (q : Hp), k57 h = some q → J κ 57 [] [] h (none, q)) (hq : itr2 (F_X10_settle_2 x0 k57) N x1 h = some q) : J κ 2 [(0, .inr (.inr x0)), (1, .inl x1)] [] h (none, q) :=
  itr2_ind (fun self hs x1 h q hq => tF_X10_settle_2 X x0 k57 self x1 h q lx0 hk57 hs hq) N x1 h q hq
theorem tf_X10_settle {κ : Kx} (X : OK κ cX10_settle 3 (none) "StruckWords$Tongue" 2) (x0 : Nat) (h : Hp) (q : Hp) (lx0 : lay x0 = some (.inl 8)) (hq : f_X10_settle x0 h = some q) : J κ 0 [(0, .inr (.inr x0))] [] h (none, q) := by
  delta f_X10_settle at hq
  refine J_iconst (pc := 0) X (v := 0) (by decide) dX10_settle_0 ?_
  refine J_istore_n (pc := 1) X (L' := [(1, .inl 0), (0, .inr (.inr x0))]) (i := 1) rfl (by decide) rfl dX10_settle_1 ?_
  refine J_sub [1, 0] rfl ?_
  refine tL_X10_settle_2 X _ _ N0 _ _ _ lx0 ?_ hq
  · intro h8 q hq
    obtain rfl := Option.some.inj hq
    exact J_vret (pc := 57) X dX10_settle_57
theorem m_X10_settle (x0 : Nat) (h : Hp) (q : Hp) (lx0 : lay x0 = some (.inl 8)) (hq : f_X10_settle x0 h = some q) : ∀ l w, CT l w yX10_settle cX10_settle 3 (none) 2 [.inr (.inr x0)] h (none, q) :=
  CT_of (L0 := [(0, .inr (.inr x0))]) (by decide) rfl (Nat.le_of_ble_eq_true rfl) (fun κ X => tf_X10_settle X x0 h q lx0 hq)
theorem tB_X9_isOfWord_12 {κ : Kx} (X : OK κ cX9_isOfWord 1 (some .boolean) "StruckWords$Tokens" 1) (x0 : Int32) (h : Hp) (q : (Int32 × Hp)) (hq : B_X9_isOfWord_12 x0 h = some q) : J κ 12 [(0, .inl x0)] [] h (some (.inl q.1), q.2) := by
  delta B_X9_isOfWord_12 at hq
  refine J_iload_n (pc := 12) X (j := 0) (i := 0) rfl rfl dX9_isOfWord_12 ?_
  refine J_bipush (pc := 13) X (v := 97) (by decide) dX9_isOfWord_13 ?_
  refine J_icmp_lt (pc := 15) (tgt := 28) X dX9_isOfWord_15 rfl (fun c2 => ?_) (fun c2 => ?_)
  · have hq := ite_t hq c2
    refine J_iconst (pc := 28) X (v := 0) (by decide) dX9_isOfWord_28 ?_
    obtain rfl := Option.some.inj hq
    exact J_zret (pc := 29) X (by decide) dX9_isOfWord_29
  · have hq := ite_f hq c2
    refine J_iload_n (pc := 18) X (j := 0) (i := 0) rfl rfl dX9_isOfWord_18 ?_
    refine J_bipush (pc := 19) X (v := 122) (by decide) dX9_isOfWord_19 ?_
    refine J_icmp_gt (pc := 21) (tgt := 28) X dX9_isOfWord_21 rfl (fun c3 => ?_) (fun c3 => ?_)
    · have hq := ite_t hq c3
      refine J_iconst (pc := 28) X (v := 0) (by decide) dX9_isOfWord_28 ?_
      obtain rfl := Option.some.inj hq
      exact J_zret (pc := 29) X (by decide) dX9_isOfWord_29
    · have hq := ite_f hq c3
      refine J_iconst (pc := 24) X (v := 1) (by decide) dX9_isOfWord_24 ?_
      refine J_goto (pc := 25) X (tgt := 29) dX9_isOfWord_25 rfl ?_
      obtain rfl := Option.some.inj hq
      exact J_zret (pc := 29) X (by decide) dX9_isOfWord_29
theorem tf_X9_isOfWord {κ : Kx} (X : OK κ cX9_isOfWord 1 (some .boolean) "StruckWords$Tokens" 1) (x0 : Int32) (h : Hp) (q : (Int32 × Hp)) (hq : f_X9_isOfWord x0 h = some q) : J κ 0 [(0, .inl x0)] [] h (some (.inl q.1), q.2) := by
  delta f_X9_isOfWord at hq
  refine J_iload_n (pc := 0) X (j := 0) (i := 0) rfl rfl dX9_isOfWord_0 ?_
  refine J_bipush (pc := 1) X (v := 48) (by decide) dX9_isOfWord_1 ?_
  refine J_icmp_lt (pc := 3) (tgt := 12) X dX9_isOfWord_3 rfl (fun c1 => ?_) (fun c1 => ?_)
  · have hq := ite_t hq c1
    exact tB_X9_isOfWord_12 X _ _ _ hq
  · have hq := ite_f hq c1
    refine J_iload_n (pc := 6) X (j := 0) (i := 0) rfl rfl dX9_isOfWord_6 ?_
    refine J_bipush (pc := 7) X (v := 57) (by decide) dX9_isOfWord_7 ?_
    refine J_icmp_le (pc := 9) (tgt := 24) X dX9_isOfWord_9 rfl (fun c4 => ?_) (fun c4 => ?_)
    · have hq := ite_t hq c4
      refine J_iconst (pc := 24) X (v := 1) (by decide) dX9_isOfWord_24 ?_
      refine J_goto (pc := 25) X (tgt := 29) dX9_isOfWord_25 rfl ?_
      obtain rfl := Option.some.inj hq
      exact J_zret (pc := 29) X (by decide) dX9_isOfWord_29
    · have hq := ite_f hq c4
      exact tB_X9_isOfWord_12 X _ _ _ hq
theorem m_X9_isOfWord (x0 : Int32) (h : Hp) (q : (Int32 × Hp)) (hq : f_X9_isOfWord x0 h = some q) : ∀ l w, CT l w yX9_isOfWord cX9_isOfWord 1 (some .boolean) 1 [.inl x0] h (some (.inl q.1), q.2) :=
  CT_of (L0 := [(0, .inl x0)]) (by decide) rfl (Nat.le_of_ble_eq_true rfl) (fun κ X => tf_X9_isOfWord X x0 h q  hq)
theorem tB_X9_kindOf_31 {κ : Kx} (X : OK κ cX9_kindOf 3 (some .int) "StruckWords$Tokens" 1) (x1 : Int32) (x2 : Int32) (h : Hp) (q : (Int32 × Hp)) (hq : B_X9_kindOf_31 x1 x2 h = some q) : J κ 31 [(1, .inl x1), (2, .inl x2)] [] h (some (.inl q.1), q.2) := by
  delta B_X9_kindOf_31 at hq
  refine J_iload_n (pc := 31) X (j := 1) (i := 2) rfl rfl dX9_kindOf_31 ?_
  refine J_if_ne (pc := 32) (tgt := 47) X dX9_kindOf_32 rfl (fun c2 => ?_) (fun c2 => ?_)
  · have hq := ite_f hq c2
    refine J_iload_n (pc := 47) X (j := 0) (i := 1) rfl rfl dX9_kindOf_47 ?_
    refine J_if_ne (pc := 48) (tgt := 60) X dX9_kindOf_48 rfl (fun c3 => ?_) (fun c3 => ?_)
    · have hq := ite_f hq c3
      refine J_iconst (pc := 60) X (v := 4) (by decide) dX9_kindOf_60 ?_
      obtain rfl := Option.some.inj hq
      exact J_iret (pc := 61) X dX9_kindOf_61
    · have hq := ite_t hq c3
      refine J_iload_n (pc := 51) X (j := 1) (i := 2) rfl rfl dX9_kindOf_51 ?_
      refine J_iconst (pc := 52) X (v := 2) (by decide) dX9_kindOf_52 ?_
      refine J_icmp_gt (pc := 53) (tgt := 60) X dX9_kindOf_53 rfl (fun c4 => ?_) (fun c4 => ?_)
      · have hq := ite_t hq c4
        refine J_iconst (pc := 60) X (v := 4) (by decide) dX9_kindOf_60 ?_
        obtain rfl := Option.some.inj hq
        exact J_iret (pc := 61) X dX9_kindOf_61
      · have hq := ite_f hq c4
        refine J_iconst (pc := 56) X (v := 2) (by decide) dX9_kindOf_56 ?_
        refine J_goto (pc := 57) X (tgt := 61) dX9_kindOf_57 rfl ?_
        obtain rfl := Option.some.inj hq
        exact J_iret (pc := 61) X dX9_kindOf_61
  · have hq := ite_t hq c2
    refine J_iload_n (pc := 35) X (j := 0) (i := 1) rfl rfl dX9_kindOf_35 ?_
    refine J_bipush (pc := 36) X (v := 6) (by decide) dX9_kindOf_36 ?_
    refine J_icmp_gt (pc := 38) (tgt := 45) X dX9_kindOf_38 rfl (fun c5 => ?_) (fun c5 => ?_)
    · have hq := ite_t hq c5
      refine J_iconst (pc := 45) X (v := 4) (by decide) dX9_kindOf_45 ?_
      obtain rfl := Option.some.inj hq
      exact J_iret (pc := 46) X dX9_kindOf_46
    · have hq := ite_f hq c5
      refine J_iconst (pc := 41) X (v := 1) (by decide) dX9_kindOf_41 ?_
      refine J_goto (pc := 42) X (tgt := 46) dX9_kindOf_42 rfl ?_
      obtain rfl := Option.some.inj hq
      exact J_iret (pc := 46) X dX9_kindOf_46
theorem tf_X9_kindOf {κ : Kx} (X : OK κ cX9_kindOf 3 (some .int) "StruckWords$Tokens" 1) (x1 : Int32) (x2 : Int32) (h : Hp) (q : (Int32 × Hp)) (hq : f_X9_kindOf x1 x2 h = some q) : J κ 0 [(0, .inr (.inr 5)), (1, .inl x1), (2, .inl x2)] [] h (some (.inl q.1), q.2) := by
  delta f_X9_kindOf at hq
  refine J_iload_n (pc := 0) X (j := 1) (i := 1) rfl rfl dX9_kindOf_0 ?_
  refine J_if_ne (pc := 1) (tgt := 31) X dX9_kindOf_1 rfl (fun c1 => ?_) (fun c1 => ?_)
  · have hq := ite_f hq c1
    refine J_sub [1, 2] rfl ?_
    exact tB_X9_kindOf_31 X _ _ _ _ hq
  · have hq := ite_t hq c1
    refine J_iload_n (pc := 4) X (j := 2) (i := 2) rfl rfl dX9_kindOf_4 ?_
    refine J_if_ne (pc := 5) (tgt := 31) X dX9_kindOf_5 rfl (fun c6 => ?_) (fun c6 => ?_)
    · have hq := ite_f hq c6
      refine J_sub [1, 2] rfl ?_
      exact tB_X9_kindOf_31 X _ _ _ _ hq
    · have hq := ite_t hq c6
      refine J_aload_n (pc := 8) X (j := 0) (i := 0) rfl rfl dX9_kindOf_8 ?_
      refine J_getR (pc := 9) X ly5 fl_9_9 dX9_kindOf_9 ?_
      refine J_ltR hq (fun r7 hq => ?_)
      obtain ⟨g8, hq⟩ := gd hq
      refine J_getF (pc := 12) X (b := r7 + 1) (isO_lay g8) fl_9_39 rfl dX9_kindOf_12 ?_
      refine J_aload_n (pc := 15) X (j := 0) (i := 0) rfl rfl dX9_kindOf_15 ?_
      refine J_getI (pc := 16) X ly5 fl_9_36 dX9_kindOf_16 ?_
      obtain ⟨g9, hq⟩ := gd hq
      refine J_iaload (pc := 19) X (ly_5_1 (isO_lay g8)) g9 dX9_kindOf_19 ?_
      refine J_bipush (pc := 20) X (v := 59) (by decide) dX9_kindOf_20 ?_
      refine J_icmp_ne (pc := 22) (tgt := 29) X dX9_kindOf_22 rfl (fun c10 => ?_) (fun c10 => ?_)
      · have hq := ite_f hq c10
        refine J_iconst (pc := 29) X (v := 4) (by decide) dX9_kindOf_29 ?_
        obtain rfl := Option.some.inj hq
        exact J_iret (pc := 30) X dX9_kindOf_30
      · have hq := ite_t hq c10
        refine J_iconst (pc := 25) X (v := 3) (by decide) dX9_kindOf_25 ?_
        refine J_goto (pc := 26) X (tgt := 30) dX9_kindOf_26 rfl ?_
        obtain rfl := Option.some.inj hq
        exact J_iret (pc := 30) X dX9_kindOf_30
theorem m_X9_kindOf (x1 : Int32) (x2 : Int32) (h : Hp) (q : (Int32 × Hp)) (hq : f_X9_kindOf x1 x2 h = some q) : ∀ l w, CT l w yX9_kindOf cX9_kindOf 3 (some .int) 1 [.inr (.inr 5), .inl x1, .inl x2] h (some (.inl q.1), q.2) :=
  CT_of (L0 := [(0, .inr (.inr 5)), (1, .inl x1), (2, .inl x2)]) (by decide) rfl (Nat.le_of_ble_eq_true rfl) (fun κ X => tf_X9_kindOf X x1 x2 h q  hq)
theorem tf_X9_withLetter {κ : Kx} (X : OK κ cX9_withLetter 2 (some .int) "StruckWords$Tokens" 1) (x0 : Int32) (x1 : Int32) (h : Hp) (q : (Int32 × Hp)) (hq : f_X9_withLetter x0 x1 h = some q) : J κ 0 [(0, .inl x0), (1, .inl x1)] [] h (some (.inl q.1), q.2) := by
  delta f_X9_withLetter at hq
  refine J_iload_n (pc := 0) X (j := 0) (i := 0) rfl rfl dX9_withLetter_0 ?_
  refine J_iconst (pc := 1) X (v := 5) (by decide) dX9_withLetter_1 ?_
  refine J_ishl (pc := 2) X dX9_withLetter_2 ?_
  refine J_iload_n (pc := 3) X (j := 1) (i := 1) rfl rfl dX9_withLetter_3 ?_
  refine J_bipush (pc := 4) X (v := 97) (by decide) dX9_withLetter_4 ?_
  refine J_isub (pc := 6) X dX9_withLetter_6 ?_
  refine J_iconst (pc := 7) X (v := 1) (by decide) dX9_withLetter_7 ?_
  refine J_iadd (pc := 8) X dX9_withLetter_8 ?_
  refine J_ior (pc := 9) X dX9_withLetter_9 ?_
  obtain rfl := Option.some.inj hq
  exact J_iret (pc := 10) X dX9_withLetter_10
theorem m_X9_withLetter (x0 : Int32) (x1 : Int32) (h : Hp) (q : (Int32 × Hp)) (hq : f_X9_withLetter x0 x1 h = some q) : ∀ l w, CT l w yX9_withLetter cX9_withLetter 2 (some .int) 1 [.inl x0, .inl x1] h (some (.inl q.1), q.2) :=
  CT_of (L0 := [(0, .inl x0), (1, .inl x1)]) (by decide) rfl (Nat.le_of_ble_eq_true rfl) (fun κ X => tf_X9_withLetter X x0 x1 h q  hq)
theorem tB_X9_advance_69 {κ : Kx} (X : OK κ cX9_advance 6 (none) "StruckWords$Tokens" 2) (x1 : Int32) (k82 : Hp → Option Hp) (self : Hp → Option Hp) (h : Hp) (q : Hp) (hk82 : ∀ (h : Hp) (q : Hp), k82 h = some q → J κ 82 [(0, .inr (.inr 5)), (1, .inl x1)] [] h (none, q)) (hself : ∀ (h : Hp) (q : Hp), self h = some q → J κ 27 [(0, .inr (.inr 5)), (1, .inl x1)] [] h (none, q)) (hq : B_X9_advance_69 x1 k82 self h = some q) : J κ 69 [(0, .inr (.inr 5)), (1, .inl x1)] [] h (none, q) := by
  delta B_X9_advance_69 at hq
  refine J_aload_n (pc := 69) X (j := 0) (i := 0) rfl rfl dX9_advance_69 ?_
  refine J_dup (pc := 70) X rfl dX9_advance_70 ?_
  refine J_getI (pc := 71) X ly5 fl_9_36 dX9_advance_71 ?_
  refine J_iconst (pc := 74) X (v := 1) (by decide) dX9_advance_74 ?_
  refine J_iadd (pc := 75) X dX9_advance_75 ?_
  refine J_putI (pc := 76) X ly5 fp_9_36 dX9_advance_76 ?_
  refine J_ltH hq (fun h10 hq => ?_)
  refine J_goto (pc := 79) X (tgt := 27) dX9_advance_79 rfl ?_
  exact hself _ _ hq
theorem tF_X9_advance_27 {κ : Kx} (X : OK κ cX9_advance 6 (none) "StruckWords$Tokens" 2) (x1 : Int32) (k82 : Hp → Option Hp) (self : Hp → Option Hp) (h : Hp) (q : Hp) (hk82 : ∀ (h : Hp) (q : Hp), k82 h = some q → J κ 82 [(0, .inr (.inr 5)), (1, .inl x1)] [] h (none, q)) (hself : ∀ (h : Hp) (q : Hp), self h = some q → J κ 27 [(0, .inr (.inr 5)), (1, .inl x1)] [] h (none, q)) (hq : F_X9_advance_27 x1 k82 self h = some q) : J κ 27 [(0, .inr (.inr 5)), (1, .inl x1)] [] h (none, q) := by
  delta F_X9_advance_27 at hq
  refine J_aload_n (pc := 27) X (j := 0) (i := 0) rfl rfl dX9_advance_27 ?_
  refine J_getI (pc := 28) X ly5 fl_9_36 dX9_advance_28 ?_
  refine J_iload_n (pc := 31) X (j := 1) (i := 1) rfl rfl dX9_advance_31 ?_
  refine J_icmp_ge (pc := 32) (tgt := 82) X dX9_advance_32 rfl (fun c5 => ?_) (fun c5 => ?_)
  · have hq := ite_t hq c5
    exact hk82 _ _ hq
  · have hq := ite_f hq c5
    refine J_aload_n (pc := 35) X (j := 0) (i := 0) rfl rfl dX9_advance_35 ?_
    refine J_getR (pc := 36) X ly5 fl_9_9 dX9_advance_36 ?_
    refine J_ltR hq (fun r6 hq => ?_)
    obtain ⟨g7, hq⟩ := gd hq
    refine J_getF (pc := 39) X (b := r6 + 1) (isO_lay g7) fl_9_39 rfl dX9_advance_39 ?_
    refine J_aload_n (pc := 42) X (j := 0) (i := 0) rfl rfl dX9_advance_42 ?_
    refine J_getI (pc := 43) X ly5 fl_9_36 dX9_advance_43 ?_
    obtain ⟨g8, hq⟩ := gd hq
    refine J_iaload (pc := 46) X (ly_5_1 (isO_lay g7)) g8 dX9_advance_46 ?_
    refine J_bipush (pc := 47) X (v := 32) (by decide) dX9_advance_47 ?_
    refine J_icmp_eq (pc := 49) (tgt := 69) X dX9_advance_49 rfl (fun c9 => ?_) (fun c9 => ?_)
    · have hq := ite_t hq c9
      exact tB_X9_advance_69 X _ _ _ _ _ hk82 hself hq
    · have hq := ite_f hq c9
      refine J_aload_n (pc := 52) X (j := 0) (i := 0) rfl rfl dX9_advance_52 ?_
      refine J_getR (pc := 53) X ly5 fl_9_9 dX9_advance_53 ?_
      refine J_ltR hq (fun r11 hq => ?_)
      obtain ⟨g12, hq⟩ := gd hq
      refine J_getF (pc := 56) X (b := r11 + 1) (isO_lay g12) fl_9_39 rfl dX9_advance_56 ?_
      refine J_aload_n (pc := 59) X (j := 0) (i := 0) rfl rfl dX9_advance_59 ?_
      refine J_getI (pc := 60) X ly5 fl_9_36 dX9_advance_60 ?_
      obtain ⟨g13, hq⟩ := gd hq
      refine J_iaload (pc := 63) X (ly_5_1 (isO_lay g12)) g13 dX9_advance_63 ?_
      refine J_bipush (pc := 64) X (v := 10) (by decide) dX9_advance_64 ?_
      refine J_icmp_ne (pc := 66) (tgt := 82) X dX9_advance_66 rfl (fun c14 => ?_) (fun c14 => ?_)
      · have hq := ite_f hq c14
        exact hk82 _ _ hq
      · have hq := ite_t hq c14
        exact tB_X9_advance_69 X _ _ _ _ _ hk82 hself hq
theorem tL_X9_advance_27 {κ : Kx} (X : OK κ cX9_advance 6 (none) "StruckWords$Tokens" 2) (x1 : Int32) (k82 : Hp → Option Hp) (N : Nat) (h : Hp) (q : Hp) (hk82 : ∀ (h : Hp) (q : Hp), k82 h = some q → J κ 82 [(0, .inr (.inr 5)), (1, .inl x1)] [] h (none, q)) (hq : itr1 (F_X9_advance_27 x1 k82) N h = some q) : J κ 27 [(0, .inr (.inr 5)), (1, .inl x1)] [] h (none, q) :=
  itr1_ind (fun self hs  h q hq => tF_X9_advance_27 X x1 k82 self h q hk82 hs hq) N  h q hq
theorem tB_X9_advance_216 {κ : Kx} (X : OK κ cX9_advance 6 (none) "StruckWords$Tokens" 2) (x1 : Int32) (k237 : Int32 → Int32 → Int32 → Hp → Option Hp) (self : Int32 → Int32 → Int32 → Hp → Option Hp) (x3 : Int32) (x4 : Int32) (x5 : Int32) (t0 : Int32) (t1 : Int32) (h : Hp) (q : Hp) (hk237 : ∀ (x2 : Int32) (x3 : Int32) (x4 : Int32) (h : Hp) (q : Hp), k237 x2 x3 x4 h = some q → J κ 237 [(0, .inr (.inr 5)), (1, .inl x1), (2, .inl x2), (3, .inl x3), (4, .inl x4)] [] h (none, q)) (hself : ∀ (x2 : Int32) (x3 : Int32) (x4 : Int32) (h : Hp) (q : Hp), self x2 x3 x4 h = some q → J κ 97 [(0, .inr (.inr 5)), (1, .inl x1), (2, .inl x2), (3, .inl x3), (4, .inl x4)] [] h (none, q)) (hq : B_X9_advance_216 x1 k237 self x3 x4 x5 t0 t1 h = some q) : J κ 216 [(0, .inr (.inr 5)), (1, .inl x1), (3, .inl x3), (4, .inl x4), (5, .inl x5)] [.inl t0, .inl t1] h (none, q) := by
  delta B_X9_advance_216 at hq
  refine J_iadd (pc := 216) X dX9_advance_216 ?_
  refine J_ltI hq (fun v40 hq => ?_)
  refine J_istore_n (pc := 217) X (L' := [(2, .inl v40), (0, .inr (.inr 5)), (1, .inl x1), (3, .inl x3), (4, .inl x4), (5, .inl x5)]) (i := 2) rfl (by decide) rfl dX9_advance_217 ?_
  refine J_iload_n (pc := 218) X (j := 3) (i := 3) rfl rfl dX9_advance_218 ?_
  refine J_iload (pc := 219) X (j := 5) rfl dX9_advance_219 ?_
  refine J_if_eq (pc := 221) (tgt := 228) X dX9_advance_221 rfl (fun c41 => ?_) (fun c41 => ?_)
  · have hq := ite_t hq c41
    refine J_iconst (pc := 228) X (v := 0) (by decide) dX9_advance_228 ?_
    refine J_iadd (pc := 229) X dX9_advance_229 ?_
    refine J_istore_n (pc := 230) X (L' := [(3, .inl (x3 + 0)), (2, .inl v40), (0, .inr (.inr 5)), (1, .inl x1), (4, .inl x4), (5, .inl x5)]) (i := 3) rfl (by decide) rfl dX9_advance_230 ?_
    refine J_iinc (pc := 231) X (j := 4) (v := 1) (L' := [(4, .inl (x4 + 1)), (3, .inl (x3 + 0)), (2, .inl v40), (0, .inr (.inr 5)), (1, .inl x1), (5, .inl x5)]) rfl (by decide) (by decide) rfl dX9_advance_231 ?_
    refine J_goto (pc := 234) X (tgt := 97) dX9_advance_234 rfl ?_
    refine J_sub [3, 4, 2, 1, 0] rfl ?_
    exact hself _ _ _ _ _ hq
  · have hq := ite_f hq c41
    refine J_iconst (pc := 224) X (v := 1) (by decide) dX9_advance_224 ?_
    refine J_goto (pc := 225) X (tgt := 229) dX9_advance_225 rfl ?_
    refine J_iadd (pc := 229) X dX9_advance_229 ?_
    refine J_istore_n (pc := 230) X (L' := [(3, .inl (x3 + 1)), (2, .inl v40), (0, .inr (.inr 5)), (1, .inl x1), (4, .inl x4), (5, .inl x5)]) (i := 3) rfl (by decide) rfl dX9_advance_230 ?_
    refine J_iinc (pc := 231) X (j := 4) (v := 1) (L' := [(4, .inl (x4 + 1)), (3, .inl (x3 + 1)), (2, .inl v40), (0, .inr (.inr 5)), (1, .inl x1), (5, .inl x5)]) rfl (by decide) (by decide) rfl dX9_advance_231 ?_
    refine J_goto (pc := 234) X (tgt := 97) dX9_advance_234 rfl ?_
    refine J_sub [3, 4, 2, 1, 0] rfl ?_
    exact hself _ _ _ _ _ hq
theorem tB_X9_advance_202 {κ : Kx} (X : OK κ cX9_advance 6 (none) "StruckWords$Tokens" 2) (x1 : Int32) (k237 : Int32 → Int32 → Int32 → Hp → Option Hp) (self : Int32 → Int32 → Int32 → Hp → Option Hp) (x2 : Int32) (x3 : Int32) (x4 : Int32) (x5 : Int32) (t0 : Int32) (h : Hp) (q : Hp) (hk237 : ∀ (x2 : Int32) (x3 : Int32) (x4 : Int32) (h : Hp) (q : Hp), k237 x2 x3 x4 h = some q → J κ 237 [(0, .inr (.inr 5)), (1, .inl x1), (2, .inl x2), (3, .inl x3), (4, .inl x4)] [] h (none, q)) (hself : ∀ (x2 : Int32) (x3 : Int32) (x4 : Int32) (h : Hp) (q : Hp), self x2 x3 x4 h = some q → J κ 97 [(0, .inr (.inr 5)), (1, .inl x1), (2, .inl x2), (3, .inl x3), (4, .inl x4)] [] h (none, q)) (hq : B_X9_advance_202 x1 k237 self x2 x3 x4 x5 t0 h = some q) : J κ 202 [(0, .inr (.inr 5)), (1, .inl x1), (2, .inl x2), (3, .inl x3), (4, .inl x4), (5, .inl x5)] [.inl t0, .inr (.inr 5)] h (none, q) := by
  delta B_X9_advance_202 at hq
  refine J_putI (pc := 202) X ly5 fp_9_43 dX9_advance_202 ?_
  refine J_ltH hq (fun h38 hq => ?_)
  refine J_iload_n (pc := 205) X (j := 2) (i := 2) rfl rfl dX9_advance_205 ?_
  refine J_iload (pc := 206) X (j := 5) rfl dX9_advance_206 ?_
  refine J_if_eq (pc := 208) (tgt := 215) X dX9_advance_208 rfl (fun c39 => ?_) (fun c39 => ?_)
  · have hq := ite_t hq c39
    refine J_iconst (pc := 215) X (v := 1) (by decide) dX9_advance_215 ?_
    refine J_sub [0, 1, 3, 4, 5] rfl ?_
    exact tB_X9_advance_216 X _ _ _ _ _ _ _ _ _ _ hk237 hself hq
  · have hq := ite_f hq c39
    refine J_iconst (pc := 211) X (v := 0) (by decide) dX9_advance_211 ?_
    refine J_goto (pc := 212) X (tgt := 216) dX9_advance_212 rfl ?_
    refine J_sub [0, 1, 3, 4, 5] rfl ?_
    exact tB_X9_advance_216 X _ _ _ _ _ _ _ _ _ _ hk237 hself hq
theorem tB_X9_advance_153 {κ : Kx} (X : OK κ cX9_advance 6 (none) "StruckWords$Tokens" 2) (x1 : Int32) (k237 : Int32 → Int32 → Int32 → Hp → Option Hp) (self : Int32 → Int32 → Int32 → Hp → Option Hp) (x2 : Int32) (x3 : Int32) (x4 : Int32) (t0 : Int32) (h : Hp) (q : Hp) (hk237 : ∀ (x2 : Int32) (x3 : Int32) (x4 : Int32) (h : Hp) (q : Hp), k237 x2 x3 x4 h = some q → J κ 237 [(0, .inr (.inr 5)), (1, .inl x1), (2, .inl x2), (3, .inl x3), (4, .inl x4)] [] h (none, q)) (hself : ∀ (x2 : Int32) (x3 : Int32) (x4 : Int32) (h : Hp) (q : Hp), self x2 x3 x4 h = some q → J κ 97 [(0, .inr (.inr 5)), (1, .inl x1), (2, .inl x2), (3, .inl x3), (4, .inl x4)] [] h (none, q)) (hq : B_X9_advance_153 x1 k237 self x2 x3 x4 t0 h = some q) : J κ 153 [(0, .inr (.inr 5)), (1, .inl x1), (2, .inl x2), (3, .inl x3), (4, .inl x4)] [.inl t0] h (none, q) := by
  delta B_X9_advance_153 at hq
  refine J_istore (pc := 153) X (L' := [(5, .inl t0), (0, .inr (.inr 5)), (1, .inl x1), (2, .inl x2), (3, .inl x3), (4, .inl x4)]) (by decide) rfl dX9_advance_153 ?_
  refine J_aload_n (pc := 155) X (j := 1) (i := 0) rfl rfl dX9_advance_155 ?_
  refine J_iload (pc := 156) X (j := 0) rfl dX9_advance_156 ?_
  refine J_if_eq (pc := 158) (tgt := 185) X dX9_advance_158 rfl (fun c32 => ?_) (fun c32 => ?_)
  · have hq := ite_t hq c32
    refine J_aload_n (pc := 185) X (j := 1) (i := 0) rfl rfl dX9_advance_185 ?_
    refine J_getI (pc := 186) X ly5 fl_9_43 dX9_advance_186 ?_
    refine J_aload_n (pc := 189) X (j := 1) (i := 0) rfl rfl dX9_advance_189 ?_
    refine J_getR (pc := 190) X ly5 fl_9_9 dX9_advance_190 ?_
    refine J_ltR hq (fun r33 hq => ?_)
    obtain ⟨g34, hq⟩ := gd hq
    refine J_getF (pc := 193) X (b := r33 + 1) (isO_lay g34) fl_9_39 rfl dX9_advance_193 ?_
    refine J_iload (pc := 196) X (j := 5) rfl dX9_advance_196 ?_
    obtain ⟨g35, hq⟩ := gd hq
    refine J_iaload (pc := 198) X (ly_5_1 (isO_lay g34)) g35 dX9_advance_198 ?_
    obtain ⟨v37, h36, hc, hq⟩ := bnd_e hq
    refine J_callS (pc := 199) (as := [.inl (h.1 5 5), .inl (h.1 (r33 + 1) (x4.toNatClampNeg))]) (st := [.inr (.inr 5)]) (st2 := [.inl v37, .inr (.inr 5)]) (r1 := (some (.inl v37), h36)) (h2 := h36) (ky := 1) X dX9_advance_199 ca_X9_withLetter cz_X9_withLetter ml_9_50 (by decide) (m_X9_withLetter _ _ _ _ hc) rfl rfl (Nat.le_of_ble_eq_true rfl) rfl rfl ?_
    refine J_sub [1, 2, 3, 4, 5, 0] rfl ?_
    exact tB_X9_advance_202 X _ _ _ _ _ _ _ _ _ _ hk237 hself hq
  · have hq := ite_f hq c32
    refine J_aload_n (pc := 161) X (j := 1) (i := 0) rfl rfl dX9_advance_161 ?_
    refine J_getI (pc := 162) X ly5 fl_9_43 dX9_advance_162 ?_
    refine J_bipush (pc := 165) X (v := 10) (by decide) dX9_advance_165 ?_
    refine J_imul (pc := 167) X dX9_advance_167 ?_
    refine J_aload_n (pc := 168) X (j := 1) (i := 0) rfl rfl dX9_advance_168 ?_
    refine J_getR (pc := 169) X ly5 fl_9_9 dX9_advance_169 ?_
    refine J_ltR hq (fun r42 hq => ?_)
    obtain ⟨g43, hq⟩ := gd hq
    refine J_getF (pc := 172) X (b := r42 + 1) (isO_lay g43) fl_9_39 rfl dX9_advance_172 ?_
    refine J_iload (pc := 175) X (j := 5) rfl dX9_advance_175 ?_
    obtain ⟨g44, hq⟩ := gd hq
    refine J_iaload (pc := 177) X (ly_5_1 (isO_lay g43)) g44 dX9_advance_177 ?_
    refine J_iadd (pc := 178) X dX9_advance_178 ?_
    refine J_bipush (pc := 179) X (v := 48) (by decide) dX9_advance_179 ?_
    refine J_isub (pc := 181) X dX9_advance_181 ?_
    refine J_goto (pc := 182) X (tgt := 202) dX9_advance_182 rfl ?_
    refine J_sub [1, 2, 3, 4, 5, 0] rfl ?_
    exact tB_X9_advance_202 X _ _ _ _ _ _ _ _ _ _ hk237 hself hq
theorem tF_X9_advance_97 {κ : Kx} (X : OK κ cX9_advance 6 (none) "StruckWords$Tokens" 2) (x1 : Int32) (k237 : Int32 → Int32 → Int32 → Hp → Option Hp) (self : Int32 → Int32 → Int32 → Hp → Option Hp) (x2 : Int32) (x3 : Int32) (x4 : Int32) (h : Hp) (q : Hp) (hk237 : ∀ (x2 : Int32) (x3 : Int32) (x4 : Int32) (h : Hp) (q : Hp), k237 x2 x3 x4 h = some q → J κ 237 [(0, .inr (.inr 5)), (1, .inl x1), (2, .inl x2), (3, .inl x3), (4, .inl x4)] [] h (none, q)) (hself : ∀ (x2 : Int32) (x3 : Int32) (x4 : Int32) (h : Hp) (q : Hp), self x2 x3 x4 h = some q → J κ 97 [(0, .inr (.inr 5)), (1, .inl x1), (2, .inl x2), (3, .inl x3), (4, .inl x4)] [] h (none, q)) (hq : F_X9_advance_97 x1 k237 self x2 x3 x4 h = some q) : J κ 97 [(0, .inr (.inr 5)), (1, .inl x1), (2, .inl x2), (3, .inl x3), (4, .inl x4)] [] h (none, q) := by
  delta F_X9_advance_97 at hq
  refine J_aload_n (pc := 97) X (j := 0) (i := 0) rfl rfl dX9_advance_97 ?_
  refine J_getI (pc := 98) X ly5 fl_9_36 dX9_advance_98 ?_
  refine J_iload_n (pc := 101) X (j := 1) (i := 1) rfl rfl dX9_advance_101 ?_
  refine J_icmp_ge (pc := 102) (tgt := 237) X dX9_advance_102 rfl (fun c18 => ?_) (fun c18 => ?_)
  · have hq := ite_t hq c18
    exact hk237 _ _ _ _ _ hq
  · have hq := ite_f hq c18
    refine J_iload (pc := 105) X (j := 4) rfl dX9_advance_105 ?_
    refine J_aload_n (pc := 107) X (j := 0) (i := 0) rfl rfl dX9_advance_107 ?_
    refine J_getR (pc := 108) X ly5 fl_9_9 dX9_advance_108 ?_
    refine J_ltR hq (fun r19 hq => ?_)
    obtain ⟨g20, hq⟩ := gd hq
    refine J_getI (pc := 111) X (isO_lay g20) fl_9_25 dX9_advance_111 ?_
    refine J_icmp_ge (pc := 114) (tgt := 237) X dX9_advance_114 rfl (fun c21 => ?_) (fun c21 => ?_)
    · have hq := ite_t hq c21
      exact hk237 _ _ _ _ _ hq
    · have hq := ite_f hq c21
      refine J_aload_n (pc := 117) X (j := 0) (i := 0) rfl rfl dX9_advance_117 ?_
      refine J_getR (pc := 118) X ly5 fl_9_9 dX9_advance_118 ?_
      refine J_ltR hq (fun r22 hq => ?_)
      obtain ⟨g23, hq⟩ := gd hq
      refine J_getF (pc := 121) X (b := r22 + 1) (isO_lay g23) fl_9_39 rfl dX9_advance_121 ?_
      refine J_iload (pc := 124) X (j := 4) rfl dX9_advance_124 ?_
      obtain ⟨g24, hq⟩ := gd hq
      refine J_iaload (pc := 126) X (ly_5_1 (isO_lay g23)) g24 dX9_advance_126 ?_
      obtain ⟨v26, h25, hc, hq⟩ := bnd_e hq
      refine J_callS (pc := 127) (as := [.inl (h.1 (r22 + 1) (x4.toNatClampNeg))]) (st := []) (st2 := [.inl v26]) (r1 := (some (.inl v26), h25)) (h2 := h25) (ky := 1) X dX9_advance_127 ca_X9_isOfWord cz_X9_isOfWord ml_9_46 (by decide) (m_X9_isOfWord _ _ _ hc) rfl rfl (Nat.le_of_ble_eq_true rfl) rfl rfl ?_
      refine J_if_eq (pc := 130) (tgt := 237) X dX9_advance_130 rfl (fun c27 => ?_) (fun c27 => ?_)
      · have hq := ite_t hq c27
        exact hk237 _ _ _ _ _ hq
      · have hq := ite_f hq c27
        refine J_aload_n (pc := 133) X (j := 0) (i := 0) rfl rfl dX9_advance_133 ?_
        refine J_getR (pc := 134) X ly5 fl_9_9 dX9_advance_134 ?_
        refine J_ltR hq (fun r28 hq => ?_)
        obtain ⟨g29, hq⟩ := gd hq
        refine J_getF (pc := 137) X (b := r28 + 1) (isO_lay g29) fl_9_39 rfl dX9_advance_137 ?_
        refine J_iload (pc := 140) X (j := 4) rfl dX9_advance_140 ?_
        obtain ⟨g30, hq⟩ := gd hq
        refine J_iaload (pc := 142) X (ly_5_1 (isO_lay g29)) g30 dX9_advance_142 ?_
        refine J_bipush (pc := 143) X (v := 57) (by decide) dX9_advance_143 ?_
        refine J_icmp_gt (pc := 145) (tgt := 152) X dX9_advance_145 rfl (fun c31 => ?_) (fun c31 => ?_)
        · have hq := ite_t hq c31
          refine J_iconst (pc := 152) X (v := 0) (by decide) dX9_advance_152 ?_
          exact tB_X9_advance_153 X _ _ _ _ _ _ _ _ _ hk237 hself hq
        · have hq := ite_f hq c31
          refine J_iconst (pc := 148) X (v := 1) (by decide) dX9_advance_148 ?_
          refine J_goto (pc := 149) X (tgt := 153) dX9_advance_149 rfl ?_
          exact tB_X9_advance_153 X _ _ _ _ _ _ _ _ _ hk237 hself hq
theorem tL_X9_advance_97 {κ : Kx} (X : OK κ cX9_advance 6 (none) "StruckWords$Tokens" 2) (x1 : Int32) (k237 : Int32 → Int32 → Int32 → Hp → Option Hp) (N : Nat) (x2 : Int32) (x3 : Int32) (x4 : Int32) (h : Hp) (q : Hp) (hk237 : ∀ (x2 : Int32) (x3 : Int32) (x4 : Int32) (h : Hp) (q : Hp), k237 x2 x3 x4 h = some q → J κ 237 [(0, .inr (.inr 5)), (1, .inl x1), (2, .inl x2), (3, .inl x3), (4, .inl x4)] [] h (none, q)) (hq : itr4 (F_X9_advance_97 x1 k237) N x2 x3 x4 h = some q) : J κ 97 [(0, .inr (.inr 5)), (1, .inl x1), (2, .inl x2), (3, .inl x3), (4, .inl x4)] [] h (none, q) :=
  itr4_ind (fun self hs x2 x3 x4 h q hq => tF_X9_advance_97 X x1 k237 self x2 x3 x4 h q hk237 hs hq) N x2 x3 x4 h q hq
theorem tB_X9_advance_294 {κ : Kx} (X : OK κ cX9_advance 6 (none) "StruckWords$Tokens" 2) (t0 : Nat) (h : Hp) (q : Hp) (lt0 : isKw t0 = true) (hq : B_X9_advance_294 t0 h = some q) : J κ 294 [] [.inr (.inr t0), .inr (.inr 5)] h (none, q) := by
  delta B_X9_advance_294 at hq
  refine J_putR (pc := 294) X ly5 fp_9_68 dX9_advance_294 ?_
  refine J_ltH hq (fun h55 hq => ?_)
  obtain rfl := Option.some.inj hq
  exact J_vret (pc := 297) X dX9_advance_297
theorem tB_X9_advance_271 {κ : Kx} (X : OK κ cX9_advance 6 (none) "StruckWords$Tokens" 2) (t0 : Int32) (h : Hp) (q : Hp) (hq : B_X9_advance_271 t0 h = some q) : J κ 271 [(0, .inr (.inr 5))] [.inl t0, .inr (.inr 5)] h (none, q) := by
  delta B_X9_advance_271 at hq
  refine J_putI (pc := 271) X ly5 fp_9_59 dX9_advance_271 ?_
  refine J_ltH hq (fun h53 hq => ?_)
  refine J_aload_n (pc := 274) X (j := 0) (i := 0) rfl rfl dX9_advance_274 ?_
  refine J_aload_n (pc := 275) X (j := 0) (i := 0) rfl rfl dX9_advance_275 ?_
  refine J_getI (pc := 276) X ly5 fl_9_59 dX9_advance_276 ?_
  refine J_iconst (pc := 279) X (v := 1) (by decide) dX9_advance_279 ?_
  refine J_icmp_ne (pc := 280) (tgt := 293) X dX9_advance_280 rfl (fun c54 => ?_) (fun c54 => ?_)
  · have hq := ite_f hq c54
    refine J_null (pc := 293) X dX9_advance_293 ?_
    refine J_sub [] rfl ?_
    exact tB_X9_advance_294 X _ _ _ (show isKw 0 = true from rfl) hq
  · have hq := ite_t hq c54
    refine J_aload_n (pc := 283) X (j := 0) (i := 0) rfl rfl dX9_advance_283 ?_
    refine J_getI (pc := 284) X ly5 fl_9_43 dX9_advance_284 ?_
    obtain ⟨r57, h56, hc, hq⟩ := bnd_e hq
    refine J_callS (pc := 287) (as := [.inl (h53.1 5 5)]) (st := [.inr (.inr 5)]) (st2 := [.inr (.inr r57), .inr (.inr 5)]) (r1 := (some (.inr (.inr r57)), h56)) (h2 := h56) (ky := 1) X dX9_advance_287 ca_X4_of cz_X4_of ml_9_62 (by decide) (m_X4_of _ _ _ hc) rfl rfl (Nat.le_of_ble_eq_true rfl) rfl rfl ?_
    obtain ⟨g58, hq⟩ := gd hq
    refine J_goto (pc := 290) X (tgt := 294) dX9_advance_290 rfl ?_
    refine J_sub [] rfl ?_
    exact tB_X9_advance_294 X _ _ _ g58 hq
theorem tB_X9_advance_237 {κ : Kx} (X : OK κ cX9_advance 6 (none) "StruckWords$Tokens" 2) (x1 : Int32) (x2 : Int32) (x3 : Int32) (x4 : Int32) (h : Hp) (q : Hp) (hq : B_X9_advance_237 x1 x2 x3 x4 h = some q) : J κ 237 [(0, .inr (.inr 5)), (1, .inl x1), (2, .inl x2), (3, .inl x3), (4, .inl x4)] [] h (none, q) := by
  delta B_X9_advance_237 at hq
  refine J_aload_n (pc := 237) X (j := 0) (i := 0) rfl rfl dX9_advance_237 ?_
  refine J_iload (pc := 238) X (j := 4) rfl dX9_advance_238 ?_
  refine J_aload_n (pc := 240) X (j := 0) (i := 0) rfl rfl dX9_advance_240 ?_
  refine J_getI (pc := 241) X ly5 fl_9_36 dX9_advance_241 ?_
  refine J_iconst (pc := 244) X (v := 1) (by decide) dX9_advance_244 ?_
  refine J_iadd (pc := 245) X dX9_advance_245 ?_
  refine J_mmax (pc := 246) X ml_9_53 dX9_advance_246 (Nat.le_of_ble_eq_true rfl) ?_
  refine J_putI (pc := 249) X ly5 fp_9_19 dX9_advance_249 ?_
  refine J_ltH hq (fun h49 hq => ?_)
  refine J_aload_n (pc := 252) X (j := 0) (i := 0) rfl rfl dX9_advance_252 ?_
  refine J_aload_n (pc := 253) X (j := 0) (i := 0) rfl rfl dX9_advance_253 ?_
  refine J_getI (pc := 254) X ly5 fl_9_36 dX9_advance_254 ?_
  refine J_iload_n (pc := 257) X (j := 1) (i := 1) rfl rfl dX9_advance_257 ?_
  refine J_icmp_lt (pc := 258) (tgt := 265) X dX9_advance_258 rfl (fun c50 => ?_) (fun c50 => ?_)
  · have hq := ite_t hq c50
    refine J_aload_n (pc := 265) X (j := 0) (i := 0) rfl rfl dX9_advance_265 ?_
    refine J_iload_n (pc := 266) X (j := 2) (i := 2) rfl rfl dX9_advance_266 ?_
    refine J_iload_n (pc := 267) X (j := 3) (i := 3) rfl rfl dX9_advance_267 ?_
    obtain ⟨v52, h51, hc, hq⟩ := bnd_e hq
    refine J_callV (pc := 268) (as := [.inl x2, .inl x3]) (st := [.inr (.inr 5)]) (st2 := [.inl v52, .inr (.inr 5)]) (r1 := (some (.inl v52), h51)) (h2 := h51) (ky := 1) X dX9_advance_268 ca_X9_kindOf ci_X9_kindOf cs_X9_kindOf ml_9_56 (by decide) ly5 rfl rfl (m_X9_kindOf _ _ _ _ hc) rfl rfl (Nat.le_of_ble_eq_true rfl) rfl rfl ?_
    refine J_sub [0] rfl ?_
    exact tB_X9_advance_271 X _ _ _ hq
  · have hq := ite_f hq c50
    refine J_iconst (pc := 261) X (v := 0) (by decide) dX9_advance_261 ?_
    refine J_goto (pc := 262) X (tgt := 271) dX9_advance_262 rfl ?_
    refine J_sub [0] rfl ?_
    exact tB_X9_advance_271 X _ _ _ hq
theorem tB_X9_advance_82 {κ : Kx} (X : OK κ cX9_advance 6 (none) "StruckWords$Tokens" 2) (x1 : Int32) (h : Hp) (q : Hp) (hq : B_X9_advance_82 x1 h = some q) : J κ 82 [(0, .inr (.inr 5)), (1, .inl x1)] [] h (none, q) := by
  delta B_X9_advance_82 at hq
  refine J_iconst (pc := 82) X (v := 0) (by decide) dX9_advance_82 ?_
  refine J_istore_n (pc := 83) X (L' := [(2, .inl 0), (0, .inr (.inr 5)), (1, .inl x1)]) (i := 2) rfl (by decide) rfl dX9_advance_83 ?_
  refine J_iconst (pc := 84) X (v := 0) (by decide) dX9_advance_84 ?_
  refine J_istore_n (pc := 85) X (L' := [(3, .inl 0), (2, .inl 0), (0, .inr (.inr 5)), (1, .inl x1)]) (i := 3) rfl (by decide) rfl dX9_advance_85 ?_
  refine J_aload_n (pc := 86) X (j := 2) (i := 0) rfl rfl dX9_advance_86 ?_
  refine J_iconst (pc := 87) X (v := 0) (by decide) dX9_advance_87 ?_
  refine J_putI (pc := 88) X ly5 fp_9_43 dX9_advance_88 ?_
  refine J_ltH hq (fun h16 hq => ?_)
  refine J_aload_n (pc := 91) X (j := 2) (i := 0) rfl rfl dX9_advance_91 ?_
  refine J_getI (pc := 92) X ly5 fl_9_36 dX9_advance_92 ?_
  refine J_ltI hq (fun v17 hq => ?_)
  refine J_istore (pc := 95) X (L' := [(4, .inl v17), (3, .inl 0), (2, .inl 0), (0, .inr (.inr 5)), (1, .inl x1)]) (by decide) rfl dX9_advance_95 ?_
  refine J_sub [3, 4, 2, 1, 0] rfl ?_
  refine tL_X9_advance_97 X _ _ N0 _ _ _ _ _ ?_ hq
  · intro v46 v47 v48 h45 q hq
    exact tB_X9_advance_237 X _ _ _ _ _ _ hq
theorem tf_X9_advance {κ : Kx} (X : OK κ cX9_advance 6 (none) "StruckWords$Tokens" 2) (h : Hp) (q : Hp) (hq : f_X9_advance h = some q) : J κ 0 [(0, .inr (.inr 5))] [] h (none, q) := by
  delta f_X9_advance at hq
  refine J_aload_n (pc := 0) X (j := 0) (i := 0) rfl rfl dX9_advance_0 ?_
  refine J_getR (pc := 1) X ly5 fl_9_9 dX9_advance_1 ?_
  refine J_ltR hq (fun r1 hq => ?_)
  obtain ⟨g2, hq⟩ := gd hq
  refine J_getI (pc := 4) X (isO_lay g2) fl_9_25 dX9_advance_4 ?_
  refine J_aload_n (pc := 7) X (j := 0) (i := 0) rfl rfl dX9_advance_7 ?_
  refine J_getI (pc := 8) X ly5 fl_9_15 dX9_advance_8 ?_
  refine J_mmin (pc := 11) X ml_9_30 dX9_advance_11 (Nat.le_of_ble_eq_true rfl) ?_
  refine J_ltI hq (fun v3 hq => ?_)
  refine J_istore_n (pc := 14) X (L' := [(1, .inl v3), (0, .inr (.inr 5))]) (i := 1) rfl (by decide) rfl dX9_advance_14 ?_
  refine J_aload_n (pc := 15) X (j := 1) (i := 0) rfl rfl dX9_advance_15 ?_
  refine J_aload_n (pc := 16) X (j := 1) (i := 0) rfl rfl dX9_advance_16 ?_
  refine J_getI (pc := 17) X ly5 fl_9_19 dX9_advance_17 ?_
  refine J_iload_n (pc := 20) X (j := 0) (i := 1) rfl rfl dX9_advance_20 ?_
  refine J_mmin (pc := 21) X ml_9_30 dX9_advance_21 (Nat.le_of_ble_eq_true rfl) ?_
  refine J_putI (pc := 24) X ly5 fp_9_36 dX9_advance_24 ?_
  refine J_ltH hq (fun h4 hq => ?_)
  refine J_sub [1, 0] rfl ?_
  refine tL_X9_advance_27 X _ _ N0 _ _ ?_ hq
  · intro h15 q hq
    exact tB_X9_advance_82 X _ _ _ hq
theorem m_X9_advance (h : Hp) (q : Hp) (hq : f_X9_advance  h = some q) : ∀ l w, CT l w yX9_advance cX9_advance 6 (none) 2 [.inr (.inr 5)] h (none, q) :=
  CT_of (L0 := [(0, .inr (.inr 5))]) (by decide) rfl (Nat.le_of_ble_eq_true rfl) (fun κ X => tf_X9_advance X  h q  hq)
theorem tf_X9_begin {κ : Kx} (X : OK κ cX9_begin 3 (none) "StruckWords$Tokens" 3) (x1 : Nat) (x2 : Int32) (h : Hp) (q : Hp) (lx1 : lay x1 = some (.inl 5)) (hq : f_X9_begin x1 x2 h = some q) : J κ 0 [(0, .inr (.inr 5)), (1, .inr (.inr x1)), (2, .inl x2)] [] h (none, q) := by
  delta f_X9_begin at hq
  refine J_aload_n (pc := 0) X (j := 0) (i := 0) rfl rfl dX9_begin_0 ?_
  refine J_aload_n (pc := 1) X (j := 1) (i := 1) rfl rfl dX9_begin_1 ?_
  refine J_putR (pc := 2) X ly5 fp_9_9 dX9_begin_2 ?_
  refine J_ltH hq (fun h1 hq => ?_)
  refine J_aload_n (pc := 5) X (j := 0) (i := 0) rfl rfl dX9_begin_5 ?_
  refine J_iload_n (pc := 6) X (j := 2) (i := 2) rfl rfl dX9_begin_6 ?_
  refine J_putI (pc := 7) X ly5 fp_9_15 dX9_begin_7 ?_
  refine J_ltH hq (fun h2 hq => ?_)
  refine J_aload_n (pc := 10) X (j := 0) (i := 0) rfl rfl dX9_begin_10 ?_
  refine J_iconst (pc := 11) X (v := 0) (by decide) dX9_begin_11 ?_
  refine J_putI (pc := 12) X ly5 fp_9_19 dX9_begin_12 ?_
  refine J_ltH hq (fun h3 hq => ?_)
  refine J_aload_n (pc := 15) X (j := 0) (i := 0) rfl rfl dX9_begin_15 ?_
  obtain ⟨h4, hc, hq⟩ := bnv_e hq
  refine J_callV (pc := 16) (as := []) (st := []) (st2 := []) (r1 := (none, h4)) (h2 := h4) (ky := 2) X dX9_begin_16 ca_X9_advance ci_X9_advance cs_X9_advance ml_9_22 (by decide) ly5 rfl rfl (m_X9_advance _ _ hc) rfl rfl (Nat.le_of_ble_eq_true rfl) rfl rfl ?_
  obtain rfl := Option.some.inj hq
  exact J_vret (pc := 19) X dX9_begin_19
theorem m_X9_begin (x1 : Nat) (x2 : Int32) (h : Hp) (q : Hp) (lx1 : lay x1 = some (.inl 5)) (hq : f_X9_begin x1 x2 h = some q) : ∀ l w, CT l w yX9_begin cX9_begin 3 (none) 3 [.inr (.inr 5), .inr (.inr x1), .inl x2] h (none, q) :=
  CT_of (L0 := [(0, .inr (.inr 5)), (1, .inr (.inr x1)), (2, .inl x2)]) (by decide) rfl (Nat.le_of_ble_eq_true rfl) (fun κ X => tf_X9_begin X x1 x2 h q lx1 hq)
theorem tf_X6_begin {κ : Kx} (X : OK κ cX6_begin 4 (none) "StruckWords$Reader" 4) (x1 : Nat) (x2 : Nat) (x3 : Int32) (h : Hp) (q : Hp) (lx1 : lay x1 = some (.inl 5)) (lx2 : lay x2 = some (.inl 8)) (hq : f_X6_begin x1 x2 x3 h = some q) : J κ 0 [(0, .inr (.inr 4)), (1, .inr (.inr x1)), (2, .inr (.inr x2)), (3, .inl x3)] [] h (none, q) := by
  delta f_X6_begin at hq
  refine J_aload_n (pc := 0) X (j := 0) (i := 0) rfl rfl dX6_begin_0 ?_
  refine J_aload_n (pc := 1) X (j := 2) (i := 2) rfl rfl dX6_begin_1 ?_
  refine J_putR (pc := 2) X ly4 fp_6_74 dX6_begin_2 ?_
  refine J_ltH hq (fun h1 hq => ?_)
  refine J_aload_n (pc := 5) X (j := 0) (i := 0) rfl rfl dX6_begin_5 ?_
  refine J_iconst (pc := 6) X (v := 0) (by decide) dX6_begin_6 ?_
  refine J_putI (pc := 7) X ly4 fp_6_78 dX6_begin_7 ?_
  refine J_ltH hq (fun h2 hq => ?_)
  refine J_aload_n (pc := 10) X (j := 0) (i := 0) rfl rfl dX6_begin_10 ?_
  refine J_iconst (pc := 11) X (v := 0) (by decide) dX6_begin_11 ?_
  refine J_putI (pc := 12) X ly4 fp_6_42 dX6_begin_12 ?_
  refine J_ltH hq (fun h3 hq => ?_)
  refine J_aload_n (pc := 15) X (j := 0) (i := 0) rfl rfl dX6_begin_15 ?_
  refine J_getF (pc := 16) X (b := 5) ly4 fl_6_12 rfl dX6_begin_16 ?_
  refine J_aload_n (pc := 19) X (j := 1) (i := 1) rfl rfl dX6_begin_19 ?_
  refine J_iload_n (pc := 20) X (j := 3) (i := 3) rfl rfl dX6_begin_20 ?_
  obtain ⟨h4, hc, hq⟩ := bnv_e hq
  refine J_callV (pc := 21) (as := [.inr (.inr x1), .inl x3]) (st := []) (st2 := []) (r1 := (none, h4)) (h2 := h4) (ky := 3) X dX6_begin_21 ca_X9_begin ci_X9_begin cs_X9_begin ml_6_81 (by decide) ly5 rfl rfl (m_X9_begin _ _ _ _ lx1 hc) rfl rfl (Nat.le_of_ble_eq_true rfl) rfl rfl ?_
  obtain rfl := Option.some.inj hq
  exact J_vret (pc := 24) X dX6_begin_24
theorem m_X6_begin (x1 : Nat) (x2 : Nat) (x3 : Int32) (h : Hp) (q : Hp) (lx1 : lay x1 = some (.inl 5)) (lx2 : lay x2 = some (.inl 8)) (hq : f_X6_begin x1 x2 x3 h = some q) : ∀ l w, CT l w yX6_begin cX6_begin 4 (none) 4 [.inr (.inr 4), .inr (.inr x1), .inr (.inr x2), .inl x3] h (none, q) :=
  CT_of (L0 := [(0, .inr (.inr 4)), (1, .inr (.inr x1)), (2, .inr (.inr x2)), (3, .inl x3)]) (by decide) rfl (Nat.le_of_ble_eq_true rfl) (fun κ X => tf_X6_begin X x1 x2 x3 h q lx1 lx2 hq)
theorem tf_X6_refuse {κ : Kx} (X : OK κ cX6_refuse 2 (some .boolean) "StruckWords$Reader" 1) (x1 : Int32) (h : Hp) (q : (Int32 × Hp)) (hq : f_X6_refuse x1 h = some q) : J κ 0 [(0, .inr (.inr 4)), (1, .inl x1)] [] h (some (.inl q.1), q.2) := by
  delta f_X6_refuse at hq
  refine J_aload_n (pc := 0) X (j := 0) (i := 0) rfl rfl dX6_refuse_0 ?_
  refine J_iload_n (pc := 1) X (j := 1) (i := 1) rfl rfl dX6_refuse_1 ?_
  refine J_putI (pc := 2) X ly4 fp_6_78 dX6_refuse_2 ?_
  refine J_ltH hq (fun h1 hq => ?_)
  refine J_aload_n (pc := 5) X (j := 0) (i := 0) rfl rfl dX6_refuse_5 ?_
  refine J_aload_n (pc := 6) X (j := 0) (i := 0) rfl rfl dX6_refuse_6 ?_
  refine J_getF (pc := 7) X (b := 5) ly4 fl_6_12 rfl dX6_refuse_7 ?_
  refine J_getI (pc := 10) X ly5 fl_6_84 dX6_refuse_10 ?_
  refine J_putI (pc := 13) X ly4 fp_6_42 dX6_refuse_13 ?_
  refine J_ltH hq (fun h2 hq => ?_)
  refine J_iconst (pc := 16) X (v := 0) (by decide) dX6_refuse_16 ?_
  obtain rfl := Option.some.inj hq
  exact J_zret (pc := 17) X (by decide) dX6_refuse_17
theorem m_X6_refuse (x1 : Int32) (h : Hp) (q : (Int32 × Hp)) (hq : f_X6_refuse x1 h = some q) : ∀ l w, CT l w yX6_refuse cX6_refuse 2 (some .boolean) 1 [.inr (.inr 4), .inl x1] h (some (.inl q.1), q.2) :=
  CT_of (L0 := [(0, .inr (.inr 4)), (1, .inl x1)]) (by decide) rfl (Nat.le_of_ble_eq_true rfl) (fun κ X => tf_X6_refuse X x1 h q  hq)
theorem tB_X6_numberHere_41 {κ : Kx} (X : OK κ cX6_numberHere 3 (some .int) "StruckWords$Reader" 2) (h : Hp) (q : (Int32 × Hp)) (hq : B_X6_numberHere_41 h = some q) : J κ 41 [(0, .inr (.inr 4))] [] h (some (.inl q.1), q.2) := by
  delta B_X6_numberHere_41 at hq
  refine J_aload_n (pc := 41) X (j := 0) (i := 0) rfl rfl dX6_numberHere_41 ?_
  refine J_iconst (pc := 42) X (v := 2) (by decide) dX6_numberHere_42 ?_
  obtain ⟨v4, h3, hc, hq⟩ := bnd_e hq
  refine J_callV (pc := 43) (as := [.inl 2]) (st := []) (st2 := [.inl v4]) (r1 := (some (.inl v4), h3)) (h2 := h3) (ky := 1) X dX6_numberHere_43 ca_X6_refuse ci_X6_refuse cs_X6_refuse ml_6_48 (by decide) ly4 rfl rfl (m_X6_refuse _ _ _ hc) rfl rfl (Nat.le_of_ble_eq_true rfl) rfl rfl ?_
  refine J_pop (pc := 46) X rfl dX6_numberHere_46 ?_
  refine J_iconst (pc := 47) X (v := (-1)) (by decide) dX6_numberHere_47 ?_
  obtain rfl := Option.some.inj hq
  exact J_iret (pc := 48) X dX6_numberHere_48
theorem tf_X6_numberHere {κ : Kx} (X : OK κ cX6_numberHere 3 (some .int) "StruckWords$Reader" 2) (x1 : Int32) (x2 : Int32) (h : Hp) (q : (Int32 × Hp)) (hq : f_X6_numberHere x1 x2 h = some q) : J κ 0 [(0, .inr (.inr 4)), (1, .inl x1), (2, .inl x2)] [] h (some (.inl q.1), q.2) := by
  delta f_X6_numberHere at hq
  refine J_aload_n (pc := 0) X (j := 0) (i := 0) rfl rfl dX6_numberHere_0 ?_
  refine J_getF (pc := 1) X (b := 5) ly4 fl_6_12 rfl dX6_numberHere_1 ?_
  refine J_getI (pc := 4) X ly5 fl_6_35 dX6_numberHere_4 ?_
  refine J_iconst (pc := 7) X (v := 2) (by decide) dX6_numberHere_7 ?_
  refine J_icmp_eq (pc := 8) (tgt := 19) X dX6_numberHere_8 rfl (fun c1 => ?_) (fun c1 => ?_)
  · have hq := ite_t hq c1
    refine J_aload_n (pc := 19) X (j := 0) (i := 0) rfl rfl dX6_numberHere_19 ?_
    refine J_getF (pc := 20) X (b := 5) ly4 fl_6_12 rfl dX6_numberHere_20 ?_
    refine J_getI (pc := 23) X ly5 fl_6_245 dX6_numberHere_23 ?_
    refine J_iload_n (pc := 26) X (j := 1) (i := 1) rfl rfl dX6_numberHere_26 ?_
    refine J_icmp_lt (pc := 27) (tgt := 41) X dX6_numberHere_27 rfl (fun c2 => ?_) (fun c2 => ?_)
    · have hq := ite_t hq c2
      refine J_sub [0] rfl ?_
      exact tB_X6_numberHere_41 X _ _ hq
    · have hq := ite_f hq c2
      refine J_aload_n (pc := 30) X (j := 0) (i := 0) rfl rfl dX6_numberHere_30 ?_
      refine J_getF (pc := 31) X (b := 5) ly4 fl_6_12 rfl dX6_numberHere_31 ?_
      refine J_getI (pc := 34) X ly5 fl_6_245 dX6_numberHere_34 ?_
      refine J_iload_n (pc := 37) X (j := 2) (i := 2) rfl rfl dX6_numberHere_37 ?_
      refine J_icmp_le (pc := 38) (tgt := 49) X dX6_numberHere_38 rfl (fun c5 => ?_) (fun c5 => ?_)
      · have hq := ite_t hq c5
        refine J_aload_n (pc := 49) X (j := 0) (i := 0) rfl rfl dX6_numberHere_49 ?_
        refine J_getF (pc := 50) X (b := 5) ly4 fl_6_12 rfl dX6_numberHere_50 ?_
        refine J_getI (pc := 53) X ly5 fl_6_245 dX6_numberHere_53 ?_
        obtain rfl := Option.some.inj hq
        exact J_iret (pc := 56) X dX6_numberHere_56
      · have hq := ite_f hq c5
        refine J_sub [0] rfl ?_
        exact tB_X6_numberHere_41 X _ _ hq
  · have hq := ite_f hq c1
    refine J_aload_n (pc := 11) X (j := 0) (i := 0) rfl rfl dX6_numberHere_11 ?_
    refine J_iconst (pc := 12) X (v := 1) (by decide) dX6_numberHere_12 ?_
    obtain ⟨v7, h6, hc, hq⟩ := bnd_e hq
    refine J_callV (pc := 13) (as := [.inl 1]) (st := []) (st2 := [.inl v7]) (r1 := (some (.inl v7), h6)) (h2 := h6) (ky := 1) X dX6_numberHere_13 ca_X6_refuse ci_X6_refuse cs_X6_refuse ml_6_48 (by decide) ly4 rfl rfl (m_X6_refuse _ _ _ hc) rfl rfl (Nat.le_of_ble_eq_true rfl) rfl rfl ?_
    refine J_pop (pc := 16) X rfl dX6_numberHere_16 ?_
    refine J_iconst (pc := 17) X (v := (-1)) (by decide) dX6_numberHere_17 ?_
    obtain rfl := Option.some.inj hq
    exact J_iret (pc := 18) X dX6_numberHere_18
theorem m_X6_numberHere (x1 : Int32) (x2 : Int32) (h : Hp) (q : (Int32 × Hp)) (hq : f_X6_numberHere x1 x2 h = some q) : ∀ l w, CT l w yX6_numberHere cX6_numberHere 3 (some .int) 2 [.inr (.inr 4), .inl x1, .inl x2] h (some (.inl q.1), q.2) :=
  CT_of (L0 := [(0, .inr (.inr 4)), (1, .inl x1), (2, .inl x2)]) (by decide) rfl (Nat.le_of_ble_eq_true rfl) (fun κ X => tf_X6_numberHere X x1 x2 h q  hq)
theorem tB_X6_readClerk_48 {κ : Kx} (X : OK κ cX6_readClerk 3 (some .boolean) "StruckWords$Reader" 3) (x1 : Int32) (h : Hp) (q : (Int32 × Hp)) (hq : B_X6_readClerk_48 x1 h = some q) : J κ 48 [(0, .inr (.inr 4)), (1, .inl x1)] [] h (some (.inl q.1), q.2) := by
  delta B_X6_readClerk_48 at hq
  refine J_aload_n (pc := 48) X (j := 0) (i := 0) rfl rfl dX6_readClerk_48 ?_
  refine J_getF (pc := 49) X (b := 5) ly4 fl_6_12 rfl dX6_readClerk_49 ?_
  obtain ⟨h8, hc, hq⟩ := bnv_e hq
  refine J_callV (pc := 52) (as := []) (st := []) (st2 := []) (r1 := (none, h8)) (h2 := h8) (ky := 2) X dX6_readClerk_52 ca_X9_advance ci_X9_advance cs_X9_advance ml_6_71 (by decide) ly5 rfl rfl (m_X9_advance _ _ hc) rfl rfl (Nat.le_of_ble_eq_true rfl) rfl rfl ?_
  refine J_aload_n (pc := 55) X (j := 0) (i := 0) rfl rfl dX6_readClerk_55 ?_
  refine J_iconst (pc := 56) X (v := 0) (by decide) dX6_readClerk_56 ?_
  refine J_bipush (pc := 57) X (v := 9) (by decide) dX6_readClerk_57 ?_
  obtain ⟨v10, h9, hc, hq⟩ := bnd_e hq
  refine J_callV (pc := 59) (as := [.inl 0, .inl 9]) (st := []) (st2 := [.inl v10]) (r1 := (some (.inl v10), h9)) (h2 := h9) (ky := 2) X dX6_readClerk_59 ca_X6_numberHere ci_X6_numberHere cs_X6_numberHere ml_6_193 (by decide) ly4 rfl rfl (m_X6_numberHere _ _ _ _ hc) rfl rfl (Nat.le_of_ble_eq_true rfl) rfl rfl ?_
  refine J_istore_n (pc := 62) X (L' := [(2, .inl v10), (0, .inr (.inr 4)), (1, .inl x1)]) (i := 2) rfl (by decide) rfl dX6_readClerk_62 ?_
  refine J_iload_n (pc := 63) X (j := 0) (i := 2) rfl rfl dX6_readClerk_63 ?_
  refine J_if_ge (pc := 64) (tgt := 69) X dX6_readClerk_64 rfl (fun c11 => ?_) (fun c11 => ?_)
  · have hq := ite_t hq c11
    refine J_aload_n (pc := 69) X (j := 1) (i := 0) rfl rfl dX6_readClerk_69 ?_
    refine J_dup (pc := 70) X rfl dX6_readClerk_70 ?_
    refine J_getI (pc := 71) X ly4 fl_6_31 dX6_readClerk_71 ?_
    refine J_iconst (pc := 74) X (v := 1) (by decide) dX6_readClerk_74 ?_
    refine J_iload_n (pc := 75) X (j := 2) (i := 1) rfl rfl dX6_readClerk_75 ?_
    refine J_ishl (pc := 76) X dX6_readClerk_76 ?_
    refine J_ior (pc := 77) X dX6_readClerk_77 ?_
    refine J_putI (pc := 78) X ly4 fp_6_31 dX6_readClerk_78 ?_
    refine J_ltH hq (fun h12 hq => ?_)
    refine J_aload_n (pc := 81) X (j := 1) (i := 0) rfl rfl dX6_readClerk_81 ?_
    refine J_getR (pc := 82) X ly4 fl_6_74 dX6_readClerk_82 ?_
    refine J_ltR hq (fun r13 hq => ?_)
    obtain ⟨g14, hq⟩ := gd hq
    refine J_getF (pc := 85) X (b := r13 + 3) (isO_lay g14) fl_6_233 rfl dX6_readClerk_85 ?_
    refine J_iload_n (pc := 88) X (j := 2) (i := 1) rfl rfl dX6_readClerk_88 ?_
    refine J_iload_n (pc := 89) X (j := 0) (i := 2) rfl rfl dX6_readClerk_89 ?_
    obtain ⟨g15, hq⟩ := gd hq
    refine J_iastore (pc := 90) X (ly_8_3 (isO_lay g14)) g15 dX6_readClerk_90 ?_
    refine J_ltH hq (fun h16 hq => ?_)
    refine J_aload_n (pc := 91) X (j := 1) (i := 0) rfl rfl dX6_readClerk_91 ?_
    refine J_getF (pc := 92) X (b := 5) ly4 fl_6_12 rfl dX6_readClerk_92 ?_
    obtain ⟨h17, hc, hq⟩ := bnv_e hq
    refine J_callV (pc := 95) (as := []) (st := []) (st2 := []) (r1 := (none, h17)) (h2 := h17) (ky := 2) X dX6_readClerk_95 ca_X9_advance ci_X9_advance cs_X9_advance ml_6_71 (by decide) ly5 rfl rfl (m_X9_advance _ _ hc) rfl rfl (Nat.le_of_ble_eq_true rfl) rfl rfl ?_
    refine J_iconst (pc := 98) X (v := 1) (by decide) dX6_readClerk_98 ?_
    obtain rfl := Option.some.inj hq
    exact J_zret (pc := 99) X (by decide) dX6_readClerk_99
  · have hq := ite_f hq c11
    refine J_iconst (pc := 67) X (v := 0) (by decide) dX6_readClerk_67 ?_
    obtain rfl := Option.some.inj hq
    exact J_zret (pc := 68) X (by decide) dX6_readClerk_68
theorem tf_X6_readClerk {κ : Kx} (X : OK κ cX6_readClerk 3 (some .boolean) "StruckWords$Reader" 3) (h : Hp) (q : (Int32 × Hp)) (hq : f_X6_readClerk h = some q) : J κ 0 [(0, .inr (.inr 4))] [] h (some (.inl q.1), q.2) := by
  delta f_X6_readClerk at hq
  refine J_aload_n (pc := 0) X (j := 0) (i := 0) rfl rfl dX6_readClerk_0 ?_
  refine J_getF (pc := 1) X (b := 5) ly4 fl_6_12 rfl dX6_readClerk_1 ?_
  obtain ⟨h1, hc, hq⟩ := bnv_e hq
  refine J_callV (pc := 4) (as := []) (st := []) (st2 := []) (r1 := (none, h1)) (h2 := h1) (ky := 2) X dX6_readClerk_4 ca_X9_advance ci_X9_advance cs_X9_advance ml_6_71 (by decide) ly5 rfl rfl (m_X9_advance _ _ hc) rfl rfl (Nat.le_of_ble_eq_true rfl) rfl rfl ?_
  refine J_aload_n (pc := 7) X (j := 0) (i := 0) rfl rfl dX6_readClerk_7 ?_
  refine J_iconst (pc := 8) X (v := 1) (by decide) dX6_readClerk_8 ?_
  refine J_aload_n (pc := 9) X (j := 0) (i := 0) rfl rfl dX6_readClerk_9 ?_
  refine J_getR (pc := 10) X ly4 fl_6_74 dX6_readClerk_10 ?_
  refine J_ltR hq (fun r2 hq => ?_)
  obtain ⟨g3, hq⟩ := gd hq
  refine J_getF (pc := 13) X (b := r2 + 2) (isO_lay g3) fl_6_221 rfl dX6_readClerk_13 ?_
  refine J_getI (pc := 16) X (ly_8_2 (isO_lay g3)) fl_6_230 dX6_readClerk_16 ?_
  obtain ⟨v5, h4, hc, hq⟩ := bnd_e hq
  refine J_callV (pc := 19) (as := [.inl 1, .inl (h1.1 (r2 + 2) 0)]) (st := []) (st2 := [.inl v5]) (r1 := (some (.inl v5), h4)) (h2 := h4) (ky := 2) X dX6_readClerk_19 ca_X6_numberHere ci_X6_numberHere cs_X6_numberHere ml_6_193 (by decide) ly4 rfl rfl (m_X6_numberHere _ _ _ _ hc) rfl rfl (Nat.le_of_ble_eq_true rfl) rfl rfl ?_
  refine J_istore_n (pc := 22) X (L' := [(1, .inl v5), (0, .inr (.inr 4))]) (i := 1) rfl (by decide) rfl dX6_readClerk_22 ?_
  refine J_iload_n (pc := 23) X (j := 0) (i := 1) rfl rfl dX6_readClerk_23 ?_
  refine J_if_lt (pc := 24) (tgt := 46) X dX6_readClerk_24 rfl (fun c6 => ?_) (fun c6 => ?_)
  · have hq := ite_t hq c6
    refine J_iconst (pc := 46) X (v := 0) (by decide) dX6_readClerk_46 ?_
    obtain rfl := Option.some.inj hq
    exact J_zret (pc := 47) X (by decide) dX6_readClerk_47
  · have hq := ite_f hq c6
    refine J_aload_n (pc := 27) X (j := 1) (i := 0) rfl rfl dX6_readClerk_27 ?_
    refine J_getI (pc := 28) X ly4 fl_6_31 dX6_readClerk_28 ?_
    refine J_iload_n (pc := 31) X (j := 0) (i := 1) rfl rfl dX6_readClerk_31 ?_
    refine J_ishr (pc := 32) X dX6_readClerk_32 ?_
    refine J_iconst (pc := 33) X (v := 1) (by decide) dX6_readClerk_33 ?_
    refine J_iand (pc := 34) X dX6_readClerk_34 ?_
    refine J_if_eq (pc := 35) (tgt := 48) X dX6_readClerk_35 rfl (fun c7 => ?_) (fun c7 => ?_)
    · have hq := ite_t hq c7
      refine J_sub [1, 0] rfl ?_
      exact tB_X6_readClerk_48 X _ _ _ hq
    · have hq := ite_f hq c7
      refine J_aload_n (pc := 38) X (j := 1) (i := 0) rfl rfl dX6_readClerk_38 ?_
      refine J_iconst (pc := 39) X (v := 3) (by decide) dX6_readClerk_39 ?_
      obtain ⟨v19, h18, hc, hq⟩ := bnd_e hq
      refine J_callV (pc := 40) (as := [.inl 3]) (st := []) (st2 := [.inl v19]) (r1 := (some (.inl v19), h18)) (h2 := h18) (ky := 1) X dX6_readClerk_40 ca_X6_refuse ci_X6_refuse cs_X6_refuse ml_6_48 (by decide) ly4 rfl rfl (m_X6_refuse _ _ _ hc) rfl rfl (Nat.le_of_ble_eq_true rfl) rfl rfl ?_
      refine J_if_ne (pc := 43) (tgt := 48) X dX6_readClerk_43 rfl (fun c20 => ?_) (fun c20 => ?_)
      · have hq := ite_f hq c20
        refine J_sub [1, 0] rfl ?_
        exact tB_X6_readClerk_48 X _ _ _ hq
      · have hq := ite_t hq c20
        refine J_iconst (pc := 46) X (v := 0) (by decide) dX6_readClerk_46 ?_
        obtain rfl := Option.some.inj hq
        exact J_zret (pc := 47) X (by decide) dX6_readClerk_47
theorem m_X6_readClerk (h : Hp) (q : (Int32 × Hp)) (hq : f_X6_readClerk  h = some q) : ∀ l w, CT l w yX6_readClerk cX6_readClerk 3 (some .boolean) 3 [.inr (.inr 4)] h (some (.inl q.1), q.2) :=
  CT_of (L0 := [(0, .inr (.inr 4))]) (by decide) rfl (Nat.le_of_ble_eq_true rfl) (fun κ X => tf_X6_readClerk X  h q  hq)
theorem tf_X6_readClose {κ : Kx} (X : OK κ cX6_readClose 1 (some .boolean) "StruckWords$Reader" 3) (h : Hp) (q : (Int32 × Hp)) (hq : f_X6_readClose h = some q) : J κ 0 [(0, .inr (.inr 4))] [] h (some (.inl q.1), q.2) := by
  delta f_X6_readClose at hq
  refine J_aload_n (pc := 0) X (j := 0) (i := 0) rfl rfl dX6_readClose_0 ?_
  refine J_getF (pc := 1) X (b := 5) ly4 fl_6_12 rfl dX6_readClose_1 ?_
  refine J_getI (pc := 4) X ly5 fl_6_35 dX6_readClose_4 ?_
  refine J_iconst (pc := 7) X (v := 3) (by decide) dX6_readClose_7 ?_
  refine J_icmp_eq (pc := 8) (tgt := 17) X dX6_readClose_8 rfl (fun c1 => ?_) (fun c1 => ?_)
  · have hq := ite_t hq c1
    refine J_aload_n (pc := 17) X (j := 0) (i := 0) rfl rfl dX6_readClose_17 ?_
    refine J_getF (pc := 18) X (b := 5) ly4 fl_6_12 rfl dX6_readClose_18 ?_
    obtain ⟨h2, hc, hq⟩ := bnv_e hq
    refine J_callV (pc := 21) (as := []) (st := []) (st2 := []) (r1 := (none, h2)) (h2 := h2) (ky := 2) X dX6_readClose_21 ca_X9_advance ci_X9_advance cs_X9_advance ml_6_71 (by decide) ly5 rfl rfl (m_X9_advance _ _ hc) rfl rfl (Nat.le_of_ble_eq_true rfl) rfl rfl ?_
    refine J_iconst (pc := 24) X (v := 1) (by decide) dX6_readClose_24 ?_
    obtain rfl := Option.some.inj hq
    exact J_zret (pc := 25) X (by decide) dX6_readClose_25
  · have hq := ite_f hq c1
    refine J_aload_n (pc := 11) X (j := 0) (i := 0) rfl rfl dX6_readClose_11 ?_
    refine J_iconst (pc := 12) X (v := 1) (by decide) dX6_readClose_12 ?_
    obtain ⟨v4, h3, hc, hq⟩ := bnd_e hq
    refine J_callV (pc := 13) (as := [.inl 1]) (st := []) (st2 := [.inl v4]) (r1 := (some (.inl v4), h3)) (h2 := h3) (ky := 1) X dX6_readClose_13 ca_X6_refuse ci_X6_refuse cs_X6_refuse ml_6_48 (by decide) ly4 rfl rfl (m_X6_refuse _ _ _ hc) rfl rfl (Nat.le_of_ble_eq_true rfl) rfl rfl ?_
    obtain ⟨g5, hq⟩ := gd hq
    obtain rfl := Option.some.inj hq
    exact J_zret (pc := 16) X g5 dX6_readClose_16
theorem m_X6_readClose (h : Hp) (q : (Int32 × Hp)) (hq : f_X6_readClose  h = some q) : ∀ l w, CT l w yX6_readClose cX6_readClose 1 (some .boolean) 3 [.inr (.inr 4)] h (some (.inl q.1), q.2) :=
  CT_of (L0 := [(0, .inr (.inr 4))]) (by decide) rfl (Nat.le_of_ble_eq_true rfl) (fun κ X => tf_X6_readClose X  h q  hq)
theorem tB_X6_readEdict_14 {κ : Kx} (X : OK κ cX6_readEdict 3 (some .boolean) "StruckWords$Reader" 3) (h : Hp) (q : (Int32 × Hp)) (hq : B_X6_readEdict_14 h = some q) : J κ 14 [(0, .inr (.inr 4))] [] h (some (.inl q.1), q.2) := by
  delta B_X6_readEdict_14 at hq
  refine J_aload_n (pc := 14) X (j := 0) (i := 0) rfl rfl dX6_readEdict_14 ?_
  refine J_iconst (pc := 15) X (v := 3) (by decide) dX6_readEdict_15 ?_
  obtain ⟨v3, h2, hc, hq⟩ := bnd_e hq
  refine J_callV (pc := 16) (as := [.inl 3]) (st := []) (st2 := [.inl v3]) (r1 := (some (.inl v3), h2)) (h2 := h2) (ky := 1) X dX6_readEdict_16 ca_X6_refuse ci_X6_refuse cs_X6_refuse ml_6_48 (by decide) ly4 rfl rfl (m_X6_refuse _ _ _ hc) rfl rfl (Nat.le_of_ble_eq_true rfl) rfl rfl ?_
  obtain ⟨g4, hq⟩ := gd hq
  obtain rfl := Option.some.inj hq
  exact J_zret (pc := 19) X g4 dX6_readEdict_19
theorem tf_X6_readEdict {κ : Kx} (X : OK κ cX6_readEdict 3 (some .boolean) "StruckWords$Reader" 3) (h : Hp) (q : (Int32 × Hp)) (hq : f_X6_readEdict h = some q) : J κ 0 [(0, .inr (.inr 4))] [] h (some (.inl q.1), q.2) := by
  delta f_X6_readEdict at hq
  refine J_aload_n (pc := 0) X (j := 0) (i := 0) rfl rfl dX6_readEdict_0 ?_
  refine J_getI (pc := 1) X ly4 fl_6_27 dX6_readEdict_1 ?_
  refine J_if_ne (pc := 4) (tgt := 14) X dX6_readEdict_4 rfl (fun c1 => ?_) (fun c1 => ?_)
  · have hq := ite_f hq c1
    exact tB_X6_readEdict_14 X _ _ hq
  · have hq := ite_t hq c1
    refine J_aload_n (pc := 7) X (j := 0) (i := 0) rfl rfl dX6_readEdict_7 ?_
    refine J_getI (pc := 8) X ly4 fl_6_31 dX6_readEdict_8 ?_
    refine J_if_eq (pc := 11) (tgt := 20) X dX6_readEdict_11 rfl (fun c5 => ?_) (fun c5 => ?_)
    · have hq := ite_t hq c5
      refine J_aload_n (pc := 20) X (j := 0) (i := 0) rfl rfl dX6_readEdict_20 ?_
      refine J_getF (pc := 21) X (b := 5) ly4 fl_6_12 rfl dX6_readEdict_21 ?_
      obtain ⟨h6, hc, hq⟩ := bnv_e hq
      refine J_callV (pc := 24) (as := []) (st := []) (st2 := []) (r1 := (none, h6)) (h2 := h6) (ky := 2) X dX6_readEdict_24 ca_X9_advance ci_X9_advance cs_X9_advance ml_6_71 (by decide) ly5 rfl rfl (m_X9_advance _ _ hc) rfl rfl (Nat.le_of_ble_eq_true rfl) rfl rfl ?_
      refine J_aload_n (pc := 27) X (j := 0) (i := 0) rfl rfl dX6_readEdict_27 ?_
      refine J_iconst (pc := 28) X (v := 2) (by decide) dX6_readEdict_28 ?_
      refine J_iconst (pc := 29) X (v := 5) (by decide) dX6_readEdict_29 ?_
      obtain ⟨v8, h7, hc, hq⟩ := bnd_e hq
      refine J_callV (pc := 30) (as := [.inl 2, .inl 5]) (st := []) (st2 := [.inl v8]) (r1 := (some (.inl v8), h7)) (h2 := h7) (ky := 2) X dX6_readEdict_30 ca_X6_numberHere ci_X6_numberHere cs_X6_numberHere ml_6_193 (by decide) ly4 rfl rfl (m_X6_numberHere _ _ _ _ hc) rfl rfl (Nat.le_of_ble_eq_true rfl) rfl rfl ?_
      refine J_istore_n (pc := 33) X (L' := [(1, .inl v8), (0, .inr (.inr 4))]) (i := 1) rfl (by decide) rfl dX6_readEdict_33 ?_
      refine J_iload_n (pc := 34) X (j := 0) (i := 1) rfl rfl dX6_readEdict_34 ?_
      refine J_if_ge (pc := 35) (tgt := 40) X dX6_readEdict_35 rfl (fun c9 => ?_) (fun c9 => ?_)
      · have hq := ite_t hq c9
        refine J_aload_n (pc := 40) X (j := 1) (i := 0) rfl rfl dX6_readEdict_40 ?_
        refine J_getF (pc := 41) X (b := 5) ly4 fl_6_12 rfl dX6_readEdict_41 ?_
        obtain ⟨h10, hc, hq⟩ := bnv_e hq
        refine J_callV (pc := 44) (as := []) (st := []) (st2 := []) (r1 := (none, h10)) (h2 := h10) (ky := 2) X dX6_readEdict_44 ca_X9_advance ci_X9_advance cs_X9_advance ml_6_71 (by decide) ly5 rfl rfl (m_X9_advance _ _ hc) rfl rfl (Nat.le_of_ble_eq_true rfl) rfl rfl ?_
        refine J_aload_n (pc := 47) X (j := 1) (i := 0) rfl rfl dX6_readEdict_47 ?_
        refine J_iconst (pc := 48) X (v := 1) (by decide) dX6_readEdict_48 ?_
        refine J_iload_n (pc := 49) X (j := 0) (i := 1) rfl rfl dX6_readEdict_49 ?_
        refine J_iconst (pc := 50) X (v := 1) (by decide) dX6_readEdict_50 ?_
        refine J_isub (pc := 51) X dX6_readEdict_51 ?_
        obtain ⟨v12, h11, hc, hq⟩ := bnd_e hq
        refine J_callV (pc := 52) (as := [.inl 1, .inl (v8 - 1)]) (st := []) (st2 := [.inl v12]) (r1 := (some (.inl v12), h11)) (h2 := h11) (ky := 2) X dX6_readEdict_52 ca_X6_numberHere ci_X6_numberHere cs_X6_numberHere ml_6_193 (by decide) ly4 rfl rfl (m_X6_numberHere _ _ _ _ hc) rfl rfl (Nat.le_of_ble_eq_true rfl) rfl rfl ?_
        refine J_istore_n (pc := 55) X (L' := [(2, .inl v12), (1, .inl v8), (0, .inr (.inr 4))]) (i := 2) rfl (by decide) rfl dX6_readEdict_55 ?_
        refine J_iload_n (pc := 56) X (j := 0) (i := 2) rfl rfl dX6_readEdict_56 ?_
        refine J_if_ge (pc := 57) (tgt := 62) X dX6_readEdict_57 rfl (fun c13 => ?_) (fun c13 => ?_)
        · have hq := ite_t hq c13
          refine J_aload_n (pc := 62) X (j := 2) (i := 0) rfl rfl dX6_readEdict_62 ?_
          refine J_getR (pc := 63) X ly4 fl_6_74 dX6_readEdict_63 ?_
          refine J_ltR hq (fun r14 hq => ?_)
          obtain ⟨g15, hq⟩ := gd hq
          refine J_getF (pc := 66) X (b := r14 + 2) (isO_lay g15) fl_6_221 rfl dX6_readEdict_66 ?_
          refine J_iload_n (pc := 69) X (j := 1) (i := 1) rfl rfl dX6_readEdict_69 ?_
          refine J_iload_n (pc := 70) X (j := 0) (i := 2) rfl rfl dX6_readEdict_70 ?_
          obtain ⟨h16, hc, hq⟩ := bnv_e hq
          refine J_callV (pc := 71) (as := [.inl v8, .inl v12]) (st := []) (st2 := []) (r1 := (none, h16)) (h2 := h16) (ky := 1) X dX6_readEdict_71 ca_X1_tell ci_X1_tell cs_X1_tell ml_6_225 (by decide) (ly_8_2 (isO_lay g15)) rfl rfl (m_X1_tell _ _ _ _ _ (ly_8_2 (isO_lay g15)) hc) rfl rfl (Nat.le_of_ble_eq_true rfl) rfl rfl ?_
          refine J_aload_n (pc := 74) X (j := 2) (i := 0) rfl rfl dX6_readEdict_74 ?_
          refine J_iconst (pc := 75) X (v := 1) (by decide) dX6_readEdict_75 ?_
          refine J_putZ (pc := 76) X ly4 fp_6_27 (by decide) dX6_readEdict_76 ?_
          refine J_ltH hq (fun h17 hq => ?_)
          refine J_aload_n (pc := 79) X (j := 2) (i := 0) rfl rfl dX6_readEdict_79 ?_
          refine J_getF (pc := 80) X (b := 5) ly4 fl_6_12 rfl dX6_readEdict_80 ?_
          obtain ⟨h18, hc, hq⟩ := bnv_e hq
          refine J_callV (pc := 83) (as := []) (st := []) (st2 := []) (r1 := (none, h18)) (h2 := h18) (ky := 2) X dX6_readEdict_83 ca_X9_advance ci_X9_advance cs_X9_advance ml_6_71 (by decide) ly5 rfl rfl (m_X9_advance _ _ hc) rfl rfl (Nat.le_of_ble_eq_true rfl) rfl rfl ?_
          refine J_iconst (pc := 86) X (v := 1) (by decide) dX6_readEdict_86 ?_
          obtain rfl := Option.some.inj hq
          exact J_zret (pc := 87) X (by decide) dX6_readEdict_87
        · have hq := ite_f hq c13
          refine J_iconst (pc := 60) X (v := 0) (by decide) dX6_readEdict_60 ?_
          obtain rfl := Option.some.inj hq
          exact J_zret (pc := 61) X (by decide) dX6_readEdict_61
      · have hq := ite_f hq c9
        refine J_iconst (pc := 38) X (v := 0) (by decide) dX6_readEdict_38 ?_
        obtain rfl := Option.some.inj hq
        exact J_zret (pc := 39) X (by decide) dX6_readEdict_39
    · have hq := ite_f hq c5
      exact tB_X6_readEdict_14 X _ _ hq
theorem m_X6_readEdict (h : Hp) (q : (Int32 × Hp)) (hq : f_X6_readEdict  h = some q) : ∀ l w, CT l w yX6_readEdict cX6_readEdict 3 (some .boolean) 3 [.inr (.inr 4)] h (some (.inl q.1), q.2) :=
  CT_of (L0 := [(0, .inr (.inr 4))]) (by decide) rfl (Nat.le_of_ble_eq_true rfl) (fun κ X => tf_X6_readEdict X  h q  hq)
theorem tf_X10_turnFollow {κ : Kx} (X : OK κ cX10_turnFollow 3 (none) "StruckWords$Tongue" 1) (x0 : Nat) (x1 : Int32) (x2 : Int32) (h : Hp) (q : Hp) (lx0 : lay x0 = some (.inl 8)) (hq : f_X10_turnFollow x0 x1 x2 h = some q) : J κ 0 [(0, .inr (.inr x0)), (1, .inl x1), (2, .inl x2)] [] h (none, q) := by
  delta f_X10_turnFollow at hq
  refine J_aload_n (pc := 0) X (j := 0) (i := 0) rfl rfl dX10_turnFollow_0 ?_
  refine J_getF (pc := 1) X (b := x0 + 4) lx0 fl_10_25 rfl dX10_turnFollow_1 ?_
  refine J_iload_n (pc := 4) X (j := 2) (i := 2) rfl rfl dX10_turnFollow_4 ?_
  refine J_dup2 (pc := 5) X rfl rfl dX10_turnFollow_5 ?_
  obtain ⟨g1, hq⟩ := gd hq
  refine J_laload (pc := 6) X (ly_8_4 lx0) g1 dX10_turnFollow_6 ?_
  refine J_ldc2 (pc := 7) X cl_10_92 dX10_turnFollow_7 ?_
  refine J_bipush (pc := 10) X (v := 8) (by decide) dX10_turnFollow_10 ?_
  refine J_iload_n (pc := 12) X (j := 1) (i := 1) rfl rfl dX10_turnFollow_12 ?_
  refine J_imul (pc := 13) X dX10_turnFollow_13 ?_
  refine J_lshl (pc := 14) X dX10_turnFollow_14 ?_
  refine J_lxor (pc := 15) X dX10_turnFollow_15 ?_
  obtain ⟨g2, hq⟩ := gd hq
  refine J_lastore (pc := 16) X (ly_8_4 lx0) g2 dX10_turnFollow_16 ?_
  refine J_ltH hq (fun h3 hq => ?_)
  obtain rfl := Option.some.inj hq
  exact J_vret (pc := 17) X dX10_turnFollow_17
theorem m_X10_turnFollow (x0 : Nat) (x1 : Int32) (x2 : Int32) (h : Hp) (q : Hp) (lx0 : lay x0 = some (.inl 8)) (hq : f_X10_turnFollow x0 x1 x2 h = some q) : ∀ l w, CT l w yX10_turnFollow cX10_turnFollow 3 (none) 1 [.inr (.inr x0), .inl x1, .inl x2] h (none, q) :=
  CT_of (L0 := [(0, .inr (.inr x0)), (1, .inl x1), (2, .inl x2)]) (by decide) rfl (Nat.le_of_ble_eq_true rfl) (fun κ X => tf_X10_turnFollow X x0 x1 x2 h q lx0 hq)
theorem tF_X6_indexOfName_2 {κ : Kx} (X : OK κ cX6_indexOfName 4 (some .int) "StruckWords$Reader" 1) (x1 : Int32) (x2 : Int32) (k28 : Int32 → Hp → Option (Int32 × Hp)) (k36 : Hp → Option (Int32 × Hp)) (self : Int32 → Hp → Option (Int32 × Hp)) (x3 : Int32) (h : Hp) (q : (Int32 × Hp)) (hk28 : ∀ (x3 : Int32) (h : Hp) (q : (Int32 × Hp)), k28 x3 h = some q → J κ 28 [(3, .inl x3)] [] h (some (.inl q.1), q.2)) (hk36 : ∀ (h : Hp) (q : (Int32 × Hp)), k36 h = some q → J κ 36 [] [] h (some (.inl q.1), q.2)) (hself : ∀ (x3 : Int32) (h : Hp) (q : (Int32 × Hp)), self x3 h = some q → J κ 2 [(0, .inr (.inr 4)), (1, .inl x1), (2, .inl x2), (3, .inl x3)] [] h (some (.inl q.1), q.2)) (hq : F_X6_indexOfName_2 x1 x2 k28 k36 self x3 h = some q) : J κ 2 [(0, .inr (.inr 4)), (1, .inl x1), (2, .inl x2), (3, .inl x3)] [] h (some (.inl q.1), q.2) := by
  delta F_X6_indexOfName_2 at hq
  refine J_iload_n (pc := 2) X (j := 3) (i := 3) rfl rfl dX6_indexOfName_2 ?_
  refine J_iload_n (pc := 3) X (j := 2) (i := 2) rfl rfl dX6_indexOfName_3 ?_
  refine J_icmp_ge (pc := 4) (tgt := 36) X dX6_indexOfName_4 rfl (fun c1 => ?_) (fun c1 => ?_)
  · have hq := ite_t hq c1
    refine J_sub [] rfl ?_
    exact hk36 _ _ hq
  · have hq := ite_f hq c1
    refine J_aload_n (pc := 7) X (j := 0) (i := 0) rfl rfl dX6_indexOfName_7 ?_
    refine J_getR (pc := 8) X ly4 fl_6_74 dX6_indexOfName_8 ?_
    refine J_ltR hq (fun r2 hq => ?_)
    obtain ⟨g3, hq⟩ := gd hq
    refine J_getF (pc := 11) X (b := r2 + 1) (isO_lay g3) fl_6_242 rfl dX6_indexOfName_11 ?_
    refine J_iload_n (pc := 14) X (j := 1) (i := 1) rfl rfl dX6_indexOfName_14 ?_
    refine J_iload_n (pc := 15) X (j := 3) (i := 3) rfl rfl dX6_indexOfName_15 ?_
    refine J_iadd (pc := 16) X dX6_indexOfName_16 ?_
    obtain ⟨g4, hq⟩ := gd hq
    refine J_iaload (pc := 17) X (ly_8_1 (isO_lay g3)) g4 dX6_indexOfName_17 ?_
    refine J_aload_n (pc := 18) X (j := 0) (i := 0) rfl rfl dX6_indexOfName_18 ?_
    refine J_getF (pc := 19) X (b := 5) ly4 fl_6_12 rfl dX6_indexOfName_19 ?_
    refine J_getI (pc := 22) X ly5 fl_6_245 dX6_indexOfName_22 ?_
    refine J_icmp_ne (pc := 25) (tgt := 30) X dX6_indexOfName_25 rfl (fun c5 => ?_) (fun c5 => ?_)
    · have hq := ite_f hq c5
      refine J_iinc (pc := 30) X (j := 3) (v := 1) (L' := [(3, .inl (x3 + 1)), (0, .inr (.inr 4)), (1, .inl x1), (2, .inl x2)]) rfl (by decide) (by decide) rfl dX6_indexOfName_30 ?_
      refine J_goto (pc := 33) X (tgt := 2) dX6_indexOfName_33 rfl ?_
      refine J_sub [1, 2, 3, 0] rfl ?_
      exact hself _ _ _ hq
    · have hq := ite_t hq c5
      refine J_sub [3] rfl ?_
      exact hk28 _ _ _ hq
theorem tL_X6_indexOfName_2 {κ : Kx} (X : OK κ cX6_indexOfName 4 (some .int) "StruckWords$Reader" 1) (x1 : Int32) (x2 : Int32) (k28 : Int32 → Hp → Option (Int32 × Hp)) (k36 : Hp → Option (Int32 × Hp)) (N : Nat) (x3 : Int32) (h : Hp) (q : (Int32 × Hp)) (hk28 : ∀ (x3 : Int32) (h : Hp) (q : (Int32 × Hp)), k28 x3 h = some q → J κ 28 [(3, .inl x3)] [] h (some (.inl q.1), q.2)) (hk36 : ∀ (h : Hp) (q : (Int32 × Hp)), k36 h = some q → J κ 36 [] [] h (some (.inl q.1), q.2)) (hq : itr2 (F_X6_indexOfName_2 x1 x2 k28 k36) N x3 h = some q) : J κ 2 [(0, .inr (.inr 4)), (1, .inl x1), (2, .inl x2), (3, .inl x3)] [] h (some (.inl q.1), q.2) :=
  itr2_ind (fun self hs x3 h q hq => tF_X6_indexOfName_2 X x1 x2 k28 k36 self x3 h q hk28 hk36 hs hq) N x3 h q hq
theorem tf_X6_indexOfName {κ : Kx} (X : OK κ cX6_indexOfName 4 (some .int) "StruckWords$Reader" 1) (x1 : Int32) (x2 : Int32) (h : Hp) (q : (Int32 × Hp)) (hq : f_X6_indexOfName x1 x2 h = some q) : J κ 0 [(0, .inr (.inr 4)), (1, .inl x1), (2, .inl x2)] [] h (some (.inl q.1), q.2) := by
  delta f_X6_indexOfName at hq
  refine J_iconst (pc := 0) X (v := 0) (by decide) dX6_indexOfName_0 ?_
  refine J_istore_n (pc := 1) X (L' := [(3, .inl 0), (0, .inr (.inr 4)), (1, .inl x1), (2, .inl x2)]) (i := 3) rfl (by decide) rfl dX6_indexOfName_1 ?_
  refine J_sub [1, 2, 3, 0] rfl ?_
  refine tL_X6_indexOfName_2 X _ _ _ _ N0 _ _ _ ?_ ?_ hq
  · intro v7 h6 q hq
    refine J_iload_n (pc := 28) X (j := 0) (i := 3) rfl rfl dX6_indexOfName_28 ?_
    obtain rfl := Option.some.inj hq
    exact J_iret (pc := 29) X dX6_indexOfName_29
  · intro h8 q hq
    refine J_iconst (pc := 36) X (v := (-1)) (by decide) dX6_indexOfName_36 ?_
    obtain rfl := Option.some.inj hq
    exact J_iret (pc := 37) X dX6_indexOfName_37
theorem m_X6_indexOfName (x1 : Int32) (x2 : Int32) (h : Hp) (q : (Int32 × Hp)) (hq : f_X6_indexOfName x1 x2 h = some q) : ∀ l w, CT l w yX6_indexOfName cX6_indexOfName 4 (some .int) 1 [.inr (.inr 4), .inl x1, .inl x2] h (some (.inl q.1), q.2) :=
  CT_of (L0 := [(0, .inr (.inr 4)), (1, .inl x1), (2, .inl x2)]) (by decide) rfl (Nat.le_of_ble_eq_true rfl) (fun κ X => tf_X6_indexOfName X x1 x2 h q  hq)
theorem tf_X6_isNameHere {κ : Kx} (X : OK κ cX6_isNameHere 1 (some .boolean) "StruckWords$Reader" 1) (h : Hp) (q : (Int32 × Hp)) (hq : f_X6_isNameHere h = some q) : J κ 0 [(0, .inr (.inr 4))] [] h (some (.inl q.1), q.2) := by
  delta f_X6_isNameHere at hq
  refine J_aload_n (pc := 0) X (j := 0) (i := 0) rfl rfl dX6_isNameHere_0 ?_
  refine J_getF (pc := 1) X (b := 5) ly4 fl_6_12 rfl dX6_isNameHere_1 ?_
  refine J_getI (pc := 4) X ly5 fl_6_35 dX6_isNameHere_4 ?_
  refine J_iconst (pc := 7) X (v := 1) (by decide) dX6_isNameHere_7 ?_
  refine J_icmp_ne (pc := 8) (tgt := 25) X dX6_isNameHere_8 rfl (fun c1 => ?_) (fun c1 => ?_)
  · have hq := ite_f hq c1
    refine J_iconst (pc := 25) X (v := 0) (by decide) dX6_isNameHere_25 ?_
    obtain rfl := Option.some.inj hq
    exact J_zret (pc := 26) X (by decide) dX6_isNameHere_26
  · have hq := ite_t hq c1
    refine J_aload_n (pc := 11) X (j := 0) (i := 0) rfl rfl dX6_isNameHere_11 ?_
    refine J_getF (pc := 12) X (b := 5) ly4 fl_6_12 rfl dX6_isNameHere_12 ?_
    refine J_getR (pc := 15) X ly5 fl_6_87 dX6_isNameHere_15 ?_
    refine J_ltR hq (fun r2 hq => ?_)
    obtain ⟨g3, hq⟩ := gd hq
    refine J_ifnonnull (pc := 18) (tgt := 25) X dX6_isNameHere_18 rfl (fun c4 => ?_) (fun c4 => ?_)
    · have hq := ite_f hq c4
      refine J_iconst (pc := 25) X (v := 0) (by decide) dX6_isNameHere_25 ?_
      obtain rfl := Option.some.inj hq
      exact J_zret (pc := 26) X (by decide) dX6_isNameHere_26
    · have hq := ite_t hq c4
      refine J_iconst (pc := 21) X (v := 1) (by decide) dX6_isNameHere_21 ?_
      refine J_goto (pc := 22) X (tgt := 26) dX6_isNameHere_22 rfl ?_
      obtain rfl := Option.some.inj hq
      exact J_zret (pc := 26) X (by decide) dX6_isNameHere_26
theorem m_X6_isNameHere (h : Hp) (q : (Int32 × Hp)) (hq : f_X6_isNameHere  h = some q) : ∀ l w, CT l w yX6_isNameHere cX6_isNameHere 1 (some .boolean) 1 [.inr (.inr 4)] h (some (.inl q.1), q.2) :=
  CT_of (L0 := [(0, .inr (.inr 4))]) (by decide) rfl (Nat.le_of_ble_eq_true rfl) (fun κ X => tf_X6_isNameHere X  h q  hq)
theorem tf_X6_toldHere {κ : Kx} (X : OK κ cX6_toldHere 4 (some .int) "StruckWords$Reader" 2) (x1 : Int32) (x2 : Int32) (h : Hp) (q : (Int32 × Hp)) (hq : f_X6_toldHere x1 x2 h = some q) : J κ 0 [(0, .inr (.inr 4)), (1, .inl x1), (2, .inl x2)] [] h (some (.inl q.1), q.2) := by
  delta f_X6_toldHere at hq
  refine J_aload_n (pc := 0) X (j := 0) (i := 0) rfl rfl dX6_toldHere_0 ?_
  obtain ⟨v2, h1, hc, hq⟩ := bnd_e hq
  refine J_callV (pc := 1) (as := []) (st := []) (st2 := [.inl v2]) (r1 := (some (.inl v2), h1)) (h2 := h1) (ky := 1) X dX6_toldHere_1 ca_X6_isNameHere ci_X6_isNameHere cs_X6_isNameHere ml_6_236 (by decide) ly4 rfl rfl (m_X6_isNameHere _ _ hc) rfl rfl (Nat.le_of_ble_eq_true rfl) rfl rfl ?_
  refine J_if_ne (pc := 4) (tgt := 15) X dX6_toldHere_4 rfl (fun c3 => ?_) (fun c3 => ?_)
  · have hq := ite_f hq c3
    refine J_aload_n (pc := 15) X (j := 0) (i := 0) rfl rfl dX6_toldHere_15 ?_
    refine J_iload_n (pc := 16) X (j := 1) (i := 1) rfl rfl dX6_toldHere_16 ?_
    refine J_iload_n (pc := 17) X (j := 2) (i := 2) rfl rfl dX6_toldHere_17 ?_
    obtain ⟨v5, h4, hc, hq⟩ := bnd_e hq
    refine J_callV (pc := 18) (as := [.inl x1, .inl x2]) (st := []) (st2 := [.inl v5]) (r1 := (some (.inl v5), h4)) (h2 := h4) (ky := 1) X dX6_toldHere_18 ca_X6_indexOfName ci_X6_indexOfName cs_X6_indexOfName ml_6_239 (by decide) ly4 rfl rfl (m_X6_indexOfName _ _ _ _ hc) rfl rfl (Nat.le_of_ble_eq_true rfl) rfl rfl ?_
    refine J_istore_n (pc := 21) X (L' := [(3, .inl v5), (0, .inr (.inr 4)), (1, .inl x1), (2, .inl x2)]) (i := 3) rfl (by decide) rfl dX6_toldHere_21 ?_
    refine J_iload_n (pc := 22) X (j := 0) (i := 3) rfl rfl dX6_toldHere_22 ?_
    refine J_if_ge (pc := 23) (tgt := 32) X dX6_toldHere_23 rfl (fun c6 => ?_) (fun c6 => ?_)
    · have hq := ite_t hq c6
      refine J_iload_n (pc := 32) X (j := 0) (i := 3) rfl rfl dX6_toldHere_32 ?_
      obtain rfl := Option.some.inj hq
      exact J_iret (pc := 33) X dX6_toldHere_33
    · have hq := ite_f hq c6
      refine J_aload_n (pc := 26) X (j := 1) (i := 0) rfl rfl dX6_toldHere_26 ?_
      refine J_iconst (pc := 27) X (v := 3) (by decide) dX6_toldHere_27 ?_
      obtain ⟨v8, h7, hc, hq⟩ := bnd_e hq
      refine J_callV (pc := 28) (as := [.inl 3]) (st := []) (st2 := [.inl v8]) (r1 := (some (.inl v8), h7)) (h2 := h7) (ky := 1) X dX6_toldHere_28 ca_X6_refuse ci_X6_refuse cs_X6_refuse ml_6_48 (by decide) ly4 rfl rfl (m_X6_refuse _ _ _ hc) rfl rfl (Nat.le_of_ble_eq_true rfl) rfl rfl ?_
      refine J_pop (pc := 31) X rfl dX6_toldHere_31 ?_
      refine J_iload_n (pc := 32) X (j := 0) (i := 3) rfl rfl dX6_toldHere_32 ?_
      obtain rfl := Option.some.inj hq
      exact J_iret (pc := 33) X dX6_toldHere_33
  · have hq := ite_t hq c3
    refine J_aload_n (pc := 7) X (j := 0) (i := 0) rfl rfl dX6_toldHere_7 ?_
    refine J_iconst (pc := 8) X (v := 1) (by decide) dX6_toldHere_8 ?_
    obtain ⟨v10, h9, hc, hq⟩ := bnd_e hq
    refine J_callV (pc := 9) (as := [.inl 1]) (st := []) (st2 := [.inl v10]) (r1 := (some (.inl v10), h9)) (h2 := h9) (ky := 1) X dX6_toldHere_9 ca_X6_refuse ci_X6_refuse cs_X6_refuse ml_6_48 (by decide) ly4 rfl rfl (m_X6_refuse _ _ _ hc) rfl rfl (Nat.le_of_ble_eq_true rfl) rfl rfl ?_
    refine J_pop (pc := 12) X rfl dX6_toldHere_12 ?_
    refine J_iconst (pc := 13) X (v := (-1)) (by decide) dX6_toldHere_13 ?_
    obtain rfl := Option.some.inj hq
    exact J_iret (pc := 14) X dX6_toldHere_14
theorem m_X6_toldHere (x1 : Int32) (x2 : Int32) (h : Hp) (q : (Int32 × Hp)) (hq : f_X6_toldHere x1 x2 h = some q) : ∀ l w, CT l w yX6_toldHere cX6_toldHere 4 (some .int) 2 [.inr (.inr 4), .inl x1, .inl x2] h (some (.inl q.1), q.2) :=
  CT_of (L0 := [(0, .inr (.inr 4)), (1, .inl x1), (2, .inl x2)]) (by decide) rfl (Nat.le_of_ble_eq_true rfl) (fun κ X => tf_X6_toldHere X x1 x2 h q  hq)
theorem tB_X6_readFollow_72 {κ : Kx} (X : OK κ cX6_readFollow 3 (some .boolean) "StruckWords$Reader" 3) (x1 : Int32) (x2 : Int32) (h : Hp) (q : (Int32 × Hp)) (hq : B_X6_readFollow_72 x1 x2 h = some q) : J κ 72 [(0, .inr (.inr 4)), (1, .inl x1), (2, .inl x2)] [] h (some (.inl q.1), q.2) := by
  delta B_X6_readFollow_72 at hq
  refine J_aload_n (pc := 72) X (j := 0) (i := 0) rfl rfl dX6_readFollow_72 ?_
  refine J_getR (pc := 73) X ly4 fl_6_74 dX6_readFollow_73 ?_
  refine J_ltR hq (fun r18 hq => ?_)
  obtain ⟨g19, hq⟩ := gd hq
  refine J_iload_n (pc := 76) X (j := 1) (i := 1) rfl rfl dX6_readFollow_76 ?_
  refine J_iload_n (pc := 77) X (j := 2) (i := 2) rfl rfl dX6_readFollow_77 ?_
  obtain ⟨h20, hc, hq⟩ := bnv_e hq
  refine J_callV (pc := 78) (as := [.inl x1, .inl x2]) (st := []) (st2 := []) (r1 := (none, h20)) (h2 := h20) (ky := 1) X dX6_readFollow_78 ca_X10_turnFollow ci_X10_turnFollow cs_X10_turnFollow ml_6_161 (by decide) (isO_lay g19) rfl rfl (m_X10_turnFollow _ _ _ _ _ (isO_lay g19) hc) rfl rfl (Nat.le_of_ble_eq_true rfl) rfl rfl ?_
  refine J_aload_n (pc := 81) X (j := 0) (i := 0) rfl rfl dX6_readFollow_81 ?_
  refine J_getF (pc := 82) X (b := 5) ly4 fl_6_12 rfl dX6_readFollow_82 ?_
  obtain ⟨h21, hc, hq⟩ := bnv_e hq
  refine J_callV (pc := 85) (as := []) (st := []) (st2 := []) (r1 := (none, h21)) (h2 := h21) (ky := 2) X dX6_readFollow_85 ca_X9_advance ci_X9_advance cs_X9_advance ml_6_71 (by decide) ly5 rfl rfl (m_X9_advance _ _ hc) rfl rfl (Nat.le_of_ble_eq_true rfl) rfl rfl ?_
  refine J_iconst (pc := 88) X (v := 1) (by decide) dX6_readFollow_88 ?_
  obtain rfl := Option.some.inj hq
  exact J_zret (pc := 89) X (by decide) dX6_readFollow_89
theorem tf_X6_readFollow {κ : Kx} (X : OK κ cX6_readFollow 3 (some .boolean) "StruckWords$Reader" 3) (h : Hp) (q : (Int32 × Hp)) (hq : f_X6_readFollow h = some q) : J κ 0 [(0, .inr (.inr 4))] [] h (some (.inl q.1), q.2) := by
  delta f_X6_readFollow at hq
  refine J_aload_n (pc := 0) X (j := 0) (i := 0) rfl rfl dX6_readFollow_0 ?_
  refine J_getF (pc := 1) X (b := 5) ly4 fl_6_12 rfl dX6_readFollow_1 ?_
  obtain ⟨h1, hc, hq⟩ := bnv_e hq
  refine J_callV (pc := 4) (as := []) (st := []) (st2 := []) (r1 := (none, h1)) (h2 := h1) (ky := 2) X dX6_readFollow_4 ca_X9_advance ci_X9_advance cs_X9_advance ml_6_71 (by decide) ly5 rfl rfl (m_X9_advance _ _ hc) rfl rfl (Nat.le_of_ble_eq_true rfl) rfl rfl ?_
  refine J_aload_n (pc := 7) X (j := 0) (i := 0) rfl rfl dX6_readFollow_7 ?_
  refine J_iconst (pc := 8) X (v := 0) (by decide) dX6_readFollow_8 ?_
  refine J_aload_n (pc := 9) X (j := 0) (i := 0) rfl rfl dX6_readFollow_9 ?_
  refine J_getR (pc := 10) X ly4 fl_6_74 dX6_readFollow_10 ?_
  refine J_ltR hq (fun r2 hq => ?_)
  obtain ⟨g3, hq⟩ := gd hq
  refine J_getI (pc := 13) X (isO_lay g3) fl_6_127 dX6_readFollow_13 ?_
  obtain ⟨v5, h4, hc, hq⟩ := bnd_e hq
  refine J_callV (pc := 16) (as := [.inl 0, .inl (h1.1 r2 0)]) (st := []) (st2 := [.inl v5]) (r1 := (some (.inl v5), h4)) (h2 := h4) (ky := 2) X dX6_readFollow_16 ca_X6_toldHere ci_X6_toldHere cs_X6_toldHere ml_6_63 (by decide) ly4 rfl rfl (m_X6_toldHere _ _ _ _ hc) rfl rfl (Nat.le_of_ble_eq_true rfl) rfl rfl ?_
  refine J_istore_n (pc := 19) X (L' := [(1, .inl v5), (0, .inr (.inr 4))]) (i := 1) rfl (by decide) rfl dX6_readFollow_19 ?_
  refine J_iload_n (pc := 20) X (j := 0) (i := 1) rfl rfl dX6_readFollow_20 ?_
  refine J_if_ge (pc := 21) (tgt := 26) X dX6_readFollow_21 rfl (fun c6 => ?_) (fun c6 => ?_)
  · have hq := ite_t hq c6
    refine J_aload_n (pc := 26) X (j := 1) (i := 0) rfl rfl dX6_readFollow_26 ?_
    refine J_getF (pc := 27) X (b := 5) ly4 fl_6_12 rfl dX6_readFollow_27 ?_
    obtain ⟨h7, hc, hq⟩ := bnv_e hq
    refine J_callV (pc := 30) (as := []) (st := []) (st2 := []) (r1 := (none, h7)) (h2 := h7) (ky := 2) X dX6_readFollow_30 ca_X9_advance ci_X9_advance cs_X9_advance ml_6_71 (by decide) ly5 rfl rfl (m_X9_advance _ _ hc) rfl rfl (Nat.le_of_ble_eq_true rfl) rfl rfl ?_
    refine J_aload_n (pc := 33) X (j := 1) (i := 0) rfl rfl dX6_readFollow_33 ?_
    refine J_iconst (pc := 34) X (v := 0) (by decide) dX6_readFollow_34 ?_
    refine J_aload_n (pc := 35) X (j := 1) (i := 0) rfl rfl dX6_readFollow_35 ?_
    refine J_getR (pc := 36) X ly4 fl_6_74 dX6_readFollow_36 ?_
    refine J_ltR hq (fun r8 hq => ?_)
    obtain ⟨g9, hq⟩ := gd hq
    refine J_getI (pc := 39) X (isO_lay g9) fl_6_127 dX6_readFollow_39 ?_
    obtain ⟨v11, h10, hc, hq⟩ := bnd_e hq
    refine J_callV (pc := 42) (as := [.inl 0, .inl (h7.1 r8 0)]) (st := []) (st2 := [.inl v11]) (r1 := (some (.inl v11), h10)) (h2 := h10) (ky := 2) X dX6_readFollow_42 ca_X6_toldHere ci_X6_toldHere cs_X6_toldHere ml_6_63 (by decide) ly4 rfl rfl (m_X6_toldHere _ _ _ _ hc) rfl rfl (Nat.le_of_ble_eq_true rfl) rfl rfl ?_
    refine J_istore_n (pc := 45) X (L' := [(2, .inl v11), (1, .inl v5), (0, .inr (.inr 4))]) (i := 2) rfl (by decide) rfl dX6_readFollow_45 ?_
    refine J_iload_n (pc := 46) X (j := 0) (i := 2) rfl rfl dX6_readFollow_46 ?_
    refine J_if_lt (pc := 47) (tgt := 70) X dX6_readFollow_47 rfl (fun c12 => ?_) (fun c12 => ?_)
    · have hq := ite_t hq c12
      refine J_iconst (pc := 70) X (v := 0) (by decide) dX6_readFollow_70 ?_
      obtain rfl := Option.some.inj hq
      exact J_zret (pc := 71) X (by decide) dX6_readFollow_71
    · have hq := ite_f hq c12
      refine J_aload_n (pc := 50) X (j := 2) (i := 0) rfl rfl dX6_readFollow_50 ?_
      refine J_getR (pc := 51) X ly4 fl_6_74 dX6_readFollow_51 ?_
      refine J_ltR hq (fun r13 hq => ?_)
      obtain ⟨g14, hq⟩ := gd hq
      refine J_iload_n (pc := 54) X (j := 1) (i := 1) rfl rfl dX6_readFollow_54 ?_
      refine J_iload_n (pc := 55) X (j := 0) (i := 2) rfl rfl dX6_readFollow_55 ?_
      obtain ⟨v16, h15, hc, hq⟩ := bnd_e hq
      refine J_callV (pc := 56) (as := [.inl v5, .inl v11]) (st := []) (st2 := [.inl v16]) (r1 := (some (.inl v16), h15)) (h2 := h15) (ky := 1) X dX6_readFollow_56 ca_X10_mayFollow ci_X10_mayFollow cs_X10_mayFollow ml_6_157 (by decide) (isO_lay g14) rfl rfl (m_X10_mayFollow _ _ _ _ _ (isO_lay g14) hc) rfl rfl (Nat.le_of_ble_eq_true rfl) rfl rfl ?_
      refine J_if_eq (pc := 59) (tgt := 72) X dX6_readFollow_59 rfl (fun c17 => ?_) (fun c17 => ?_)
      · have hq := ite_t hq c17
        refine J_sub [2, 1, 0] rfl ?_
        exact tB_X6_readFollow_72 X _ _ _ _ hq
      · have hq := ite_f hq c17
        refine J_aload_n (pc := 62) X (j := 2) (i := 0) rfl rfl dX6_readFollow_62 ?_
        refine J_iconst (pc := 63) X (v := 3) (by decide) dX6_readFollow_63 ?_
        obtain ⟨v23, h22, hc, hq⟩ := bnd_e hq
        refine J_callV (pc := 64) (as := [.inl 3]) (st := []) (st2 := [.inl v23]) (r1 := (some (.inl v23), h22)) (h2 := h22) (ky := 1) X dX6_readFollow_64 ca_X6_refuse ci_X6_refuse cs_X6_refuse ml_6_48 (by decide) ly4 rfl rfl (m_X6_refuse _ _ _ hc) rfl rfl (Nat.le_of_ble_eq_true rfl) rfl rfl ?_
        refine J_if_ne (pc := 67) (tgt := 72) X dX6_readFollow_67 rfl (fun c24 => ?_) (fun c24 => ?_)
        · have hq := ite_f hq c24
          refine J_sub [2, 1, 0] rfl ?_
          exact tB_X6_readFollow_72 X _ _ _ _ hq
        · have hq := ite_t hq c24
          refine J_iconst (pc := 70) X (v := 0) (by decide) dX6_readFollow_70 ?_
          obtain rfl := Option.some.inj hq
          exact J_zret (pc := 71) X (by decide) dX6_readFollow_71
  · have hq := ite_f hq c6
    refine J_iconst (pc := 24) X (v := 0) (by decide) dX6_readFollow_24 ?_
    obtain rfl := Option.some.inj hq
    exact J_zret (pc := 25) X (by decide) dX6_readFollow_25
theorem m_X6_readFollow (h : Hp) (q : (Int32 × Hp)) (hq : f_X6_readFollow  h = some q) : ∀ l w, CT l w yX6_readFollow cX6_readFollow 3 (some .boolean) 3 [.inr (.inr 4)] h (some (.inl q.1), q.2) :=
  CT_of (L0 := [(0, .inr (.inr 4))]) (by decide) rfl (Nat.le_of_ble_eq_true rfl) (fun κ X => tf_X6_readFollow X  h q  hq)
theorem tB_X6_readNewName_71 {κ : Kx} (X : OK κ cX6_readNewName 3 (some .boolean) "StruckWords$Reader" 3) (x1 : Int32) (t0 : Int32) (h : Hp) (q : (Int32 × Hp)) (hq : B_X6_readNewName_71 x1 t0 h = some q) : J κ 71 [(0, .inr (.inr 4)), (1, .inl x1)] [.inl t0] h (some (.inl q.1), q.2) := by
  delta B_X6_readNewName_71 at hq
  refine J_istore_n (pc := 71) X (L' := [(2, .inl t0), (0, .inr (.inr 4)), (1, .inl x1)]) (i := 2) rfl (by decide) rfl dX6_readNewName_71 ?_
  refine J_iload_n (pc := 72) X (j := 0) (i := 2) rfl rfl dX6_readNewName_72 ?_
  refine J_if_eq (pc := 73) (tgt := 82) X dX6_readNewName_73 rfl (fun c10 => ?_) (fun c10 => ?_)
  · have hq := ite_t hq c10
    refine J_aload_n (pc := 82) X (j := 1) (i := 0) rfl rfl dX6_readNewName_82 ?_
    refine J_getR (pc := 83) X ly4 fl_6_74 dX6_readNewName_83 ?_
    refine J_ltR hq (fun r11 hq => ?_)
    obtain ⟨g12, hq⟩ := gd hq
    refine J_getF (pc := 86) X (b := r11 + 1) (isO_lay g12) fl_6_242 rfl dX6_readNewName_86 ?_
    refine J_iload_n (pc := 89) X (j := 2) (i := 1) rfl rfl dX6_readNewName_89 ?_
    refine J_aload_n (pc := 90) X (j := 1) (i := 0) rfl rfl dX6_readNewName_90 ?_
    refine J_getF (pc := 91) X (b := 5) ly4 fl_6_12 rfl dX6_readNewName_91 ?_
    refine J_getI (pc := 94) X ly5 fl_6_245 dX6_readNewName_94 ?_
    obtain ⟨g13, hq⟩ := gd hq
    refine J_iastore (pc := 97) X (ly_8_1 (isO_lay g12)) g13 dX6_readNewName_97 ?_
    refine J_ltH hq (fun h14 hq => ?_)
    refine J_aload_n (pc := 98) X (j := 1) (i := 0) rfl rfl dX6_readNewName_98 ?_
    refine J_getF (pc := 99) X (b := 5) ly4 fl_6_12 rfl dX6_readNewName_99 ?_
    obtain ⟨h15, hc, hq⟩ := bnv_e hq
    refine J_callV (pc := 102) (as := []) (st := []) (st2 := []) (r1 := (none, h15)) (h2 := h15) (ky := 2) X dX6_readNewName_102 ca_X9_advance ci_X9_advance cs_X9_advance ml_6_71 (by decide) ly5 rfl rfl (m_X9_advance _ _ hc) rfl rfl (Nat.le_of_ble_eq_true rfl) rfl rfl ?_
    refine J_iconst (pc := 105) X (v := 1) (by decide) dX6_readNewName_105 ?_
    obtain rfl := Option.some.inj hq
    exact J_zret (pc := 106) X (by decide) dX6_readNewName_106
  · have hq := ite_f hq c10
    refine J_aload_n (pc := 76) X (j := 1) (i := 0) rfl rfl dX6_readNewName_76 ?_
    refine J_iconst (pc := 77) X (v := 3) (by decide) dX6_readNewName_77 ?_
    obtain ⟨v17, h16, hc, hq⟩ := bnd_e hq
    refine J_callV (pc := 78) (as := [.inl 3]) (st := []) (st2 := [.inl v17]) (r1 := (some (.inl v17), h16)) (h2 := h16) (ky := 1) X dX6_readNewName_78 ca_X6_refuse ci_X6_refuse cs_X6_refuse ml_6_48 (by decide) ly4 rfl rfl (m_X6_refuse _ _ _ hc) rfl rfl (Nat.le_of_ble_eq_true rfl) rfl rfl ?_
    obtain ⟨g18, hq⟩ := gd hq
    obtain rfl := Option.some.inj hq
    exact J_zret (pc := 81) X g18 dX6_readNewName_81
theorem tf_X6_readNewName {κ : Kx} (X : OK κ cX6_readNewName 3 (some .boolean) "StruckWords$Reader" 3) (x1 : Int32) (h : Hp) (q : (Int32 × Hp)) (hq : f_X6_readNewName x1 h = some q) : J κ 0 [(0, .inr (.inr 4)), (1, .inl x1)] [] h (some (.inl q.1), q.2) := by
  delta f_X6_readNewName at hq
  refine J_aload_n (pc := 0) X (j := 0) (i := 0) rfl rfl dX6_readNewName_0 ?_
  refine J_getF (pc := 1) X (b := 5) ly4 fl_6_12 rfl dX6_readNewName_1 ?_
  obtain ⟨h1, hc, hq⟩ := bnv_e hq
  refine J_callV (pc := 4) (as := []) (st := []) (st2 := []) (r1 := (none, h1)) (h2 := h1) (ky := 2) X dX6_readNewName_4 ca_X9_advance ci_X9_advance cs_X9_advance ml_6_71 (by decide) ly5 rfl rfl (m_X9_advance _ _ hc) rfl rfl (Nat.le_of_ble_eq_true rfl) rfl rfl ?_
  refine J_aload_n (pc := 7) X (j := 0) (i := 0) rfl rfl dX6_readNewName_7 ?_
  obtain ⟨v3, h2, hc, hq⟩ := bnd_e hq
  refine J_callV (pc := 8) (as := []) (st := []) (st2 := [.inl v3]) (r1 := (some (.inl v3), h2)) (h2 := h2) (ky := 1) X dX6_readNewName_8 ca_X6_isNameHere ci_X6_isNameHere cs_X6_isNameHere ml_6_236 (by decide) ly4 rfl rfl (m_X6_isNameHere _ _ hc) rfl rfl (Nat.le_of_ble_eq_true rfl) rfl rfl ?_
  refine J_if_ne (pc := 11) (tgt := 20) X dX6_readNewName_11 rfl (fun c4 => ?_) (fun c4 => ?_)
  · have hq := ite_f hq c4
    refine J_aload_n (pc := 20) X (j := 0) (i := 0) rfl rfl dX6_readNewName_20 ?_
    refine J_iconst (pc := 21) X (v := 0) (by decide) dX6_readNewName_21 ?_
    refine J_aload_n (pc := 22) X (j := 0) (i := 0) rfl rfl dX6_readNewName_22 ?_
    refine J_getR (pc := 23) X ly4 fl_6_74 dX6_readNewName_23 ?_
    refine J_ltR hq (fun r5 hq => ?_)
    obtain ⟨g6, hq⟩ := gd hq
    refine J_getI (pc := 26) X (isO_lay g6) fl_6_127 dX6_readNewName_26 ?_
    obtain ⟨v8, h7, hc, hq⟩ := bnd_e hq
    refine J_callV (pc := 29) (as := [.inl 0, .inl (h2.1 r5 0)]) (st := []) (st2 := [.inl v8]) (r1 := (some (.inl v8), h7)) (h2 := h7) (ky := 1) X dX6_readNewName_29 ca_X6_indexOfName ci_X6_indexOfName cs_X6_indexOfName ml_6_239 (by decide) ly4 rfl rfl (m_X6_indexOfName _ _ _ _ hc) rfl rfl (Nat.le_of_ble_eq_true rfl) rfl rfl ?_
    refine J_if_ge (pc := 32) (tgt := 66) X dX6_readNewName_32 rfl (fun c9 => ?_) (fun c9 => ?_)
    · have hq := ite_t hq c9
      refine J_iconst (pc := 66) X (v := 1) (by decide) dX6_readNewName_66 ?_
      refine J_goto (pc := 67) X (tgt := 71) dX6_readNewName_67 rfl ?_
      exact tB_X6_readNewName_71 X _ _ _ _ hq
    · have hq := ite_f hq c9
      refine J_aload_n (pc := 35) X (j := 0) (i := 0) rfl rfl dX6_readNewName_35 ?_
      refine J_iconst (pc := 36) X (v := 5) (by decide) dX6_readNewName_36 ?_
      refine J_aload_n (pc := 37) X (j := 0) (i := 0) rfl rfl dX6_readNewName_37 ?_
      refine J_getR (pc := 38) X ly4 fl_6_74 dX6_readNewName_38 ?_
      refine J_ltR hq (fun r19 hq => ?_)
      obtain ⟨g20, hq⟩ := gd hq
      refine J_getI (pc := 41) X (isO_lay g20) fl_6_154 dX6_readNewName_41 ?_
      obtain ⟨v22, h21, hc, hq⟩ := bnd_e hq
      refine J_callV (pc := 44) (as := [.inl 5, .inl (h7.1 r19 1)]) (st := []) (st2 := [.inl v22]) (r1 := (some (.inl v22), h21)) (h2 := h21) (ky := 1) X dX6_readNewName_44 ca_X6_indexOfName ci_X6_indexOfName cs_X6_indexOfName ml_6_239 (by decide) ly4 rfl rfl (m_X6_indexOfName _ _ _ _ hc) rfl rfl (Nat.le_of_ble_eq_true rfl) rfl rfl ?_
      refine J_if_ge (pc := 47) (tgt := 66) X dX6_readNewName_47 rfl (fun c23 => ?_) (fun c23 => ?_)
      · have hq := ite_t hq c23
        refine J_iconst (pc := 66) X (v := 1) (by decide) dX6_readNewName_66 ?_
        refine J_goto (pc := 67) X (tgt := 71) dX6_readNewName_67 rfl ?_
        exact tB_X6_readNewName_71 X _ _ _ _ hq
      · have hq := ite_f hq c23
        refine J_aload_n (pc := 50) X (j := 0) (i := 0) rfl rfl dX6_readNewName_50 ?_
        refine J_bipush (pc := 51) X (v := 8) (by decide) dX6_readNewName_51 ?_
        refine J_aload_n (pc := 53) X (j := 0) (i := 0) rfl rfl dX6_readNewName_53 ?_
        refine J_getR (pc := 54) X ly4 fl_6_74 dX6_readNewName_54 ?_
        refine J_ltR hq (fun r24 hq => ?_)
        obtain ⟨g25, hq⟩ := gd hq
        refine J_getI (pc := 57) X (isO_lay g25) fl_6_60 dX6_readNewName_57 ?_
        obtain ⟨v27, h26, hc, hq⟩ := bnd_e hq
        refine J_callV (pc := 60) (as := [.inl 8, .inl (h21.1 r24 2)]) (st := []) (st2 := [.inl v27]) (r1 := (some (.inl v27), h26)) (h2 := h26) (ky := 1) X dX6_readNewName_60 ca_X6_indexOfName ci_X6_indexOfName cs_X6_indexOfName ml_6_239 (by decide) ly4 rfl rfl (m_X6_indexOfName _ _ _ _ hc) rfl rfl (Nat.le_of_ble_eq_true rfl) rfl rfl ?_
        refine J_if_lt (pc := 63) (tgt := 70) X dX6_readNewName_63 rfl (fun c28 => ?_) (fun c28 => ?_)
        · have hq := ite_t hq c28
          refine J_iconst (pc := 70) X (v := 0) (by decide) dX6_readNewName_70 ?_
          exact tB_X6_readNewName_71 X _ _ _ _ hq
        · have hq := ite_f hq c28
          refine J_iconst (pc := 66) X (v := 1) (by decide) dX6_readNewName_66 ?_
          refine J_goto (pc := 67) X (tgt := 71) dX6_readNewName_67 rfl ?_
          exact tB_X6_readNewName_71 X _ _ _ _ hq
  · have hq := ite_t hq c4
    refine J_aload_n (pc := 14) X (j := 0) (i := 0) rfl rfl dX6_readNewName_14 ?_
    refine J_iconst (pc := 15) X (v := 1) (by decide) dX6_readNewName_15 ?_
    obtain ⟨v30, h29, hc, hq⟩ := bnd_e hq
    refine J_callV (pc := 16) (as := [.inl 1]) (st := []) (st2 := [.inl v30]) (r1 := (some (.inl v30), h29)) (h2 := h29) (ky := 1) X dX6_readNewName_16 ca_X6_refuse ci_X6_refuse cs_X6_refuse ml_6_48 (by decide) ly4 rfl rfl (m_X6_refuse _ _ _ hc) rfl rfl (Nat.le_of_ble_eq_true rfl) rfl rfl ?_
    obtain ⟨g31, hq⟩ := gd hq
    obtain rfl := Option.some.inj hq
    exact J_zret (pc := 19) X g31 dX6_readNewName_19
theorem m_X6_readNewName (x1 : Int32) (h : Hp) (q : (Int32 × Hp)) (hq : f_X6_readNewName x1 h = some q) : ∀ l w, CT l w yX6_readNewName cX6_readNewName 3 (some .boolean) 3 [.inr (.inr 4), .inl x1] h (some (.inl q.1), q.2) :=
  CT_of (L0 := [(0, .inr (.inr 4)), (1, .inl x1)]) (by decide) rfl (Nat.le_of_ble_eq_true rfl) (fun κ X => tf_X6_readNewName X x1 h q  hq)
theorem tf_X6_readMark {κ : Kx} (X : OK κ cX6_readMark 1 (some .boolean) "StruckWords$Reader" 4) (h : Hp) (q : (Int32 × Hp)) (hq : f_X6_readMark h = some q) : J κ 0 [(0, .inr (.inr 4))] [] h (some (.inl q.1), q.2) := by
  delta f_X6_readMark at hq
  refine J_aload_n (pc := 0) X (j := 0) (i := 0) rfl rfl dX6_readMark_0 ?_
  refine J_getR (pc := 1) X ly4 fl_6_74 dX6_readMark_1 ?_
  refine J_ltR hq (fun r1 hq => ?_)
  obtain ⟨g2, hq⟩ := gd hq
  refine J_getI (pc := 4) X (isO_lay g2) fl_6_154 dX6_readMark_4 ?_
  refine J_iconst (pc := 7) X (v := 3) (by decide) dX6_readMark_7 ?_
  refine J_icmp_lt (pc := 8) (tgt := 17) X dX6_readMark_8 rfl (fun c3 => ?_) (fun c3 => ?_)
  · have hq := ite_t hq c3
    refine J_aload_n (pc := 17) X (j := 0) (i := 0) rfl rfl dX6_readMark_17 ?_
    refine J_iconst (pc := 18) X (v := 5) (by decide) dX6_readMark_18 ?_
    refine J_aload_n (pc := 19) X (j := 0) (i := 0) rfl rfl dX6_readMark_19 ?_
    refine J_getR (pc := 20) X ly4 fl_6_74 dX6_readMark_20 ?_
    refine J_ltR hq (fun r4 hq => ?_)
    obtain ⟨g5, hq⟩ := gd hq
    refine J_getI (pc := 23) X (isO_lay g5) fl_6_154 dX6_readMark_23 ?_
    refine J_iadd (pc := 26) X dX6_readMark_26 ?_
    obtain ⟨v7, h6, hc, hq⟩ := bnd_e hq
    refine J_callV (pc := 27) (as := [.inl (5 + (h.1 r4 1))]) (st := []) (st2 := [.inl v7]) (r1 := (some (.inl v7), h6)) (h2 := h6) (ky := 3) X dX6_readMark_27 ca_X6_readNewName ci_X6_readNewName cs_X6_readNewName ml_6_130 (by decide) ly4 rfl rfl (m_X6_readNewName _ _ _ hc) rfl rfl (Nat.le_of_ble_eq_true rfl) rfl rfl ?_
    refine J_if_ne (pc := 30) (tgt := 35) X dX6_readMark_30 rfl (fun c8 => ?_) (fun c8 => ?_)
    · have hq := ite_f hq c8
      refine J_aload_n (pc := 35) X (j := 0) (i := 0) rfl rfl dX6_readMark_35 ?_
      refine J_getR (pc := 36) X ly4 fl_6_74 dX6_readMark_36 ?_
      refine J_ltR hq (fun r9 hq => ?_)
      obtain ⟨g10, hq⟩ := gd hq
      refine J_dup (pc := 39) X rfl dX6_readMark_39 ?_
      refine J_getI (pc := 40) X (isO_lay g10) fl_6_154 dX6_readMark_40 ?_
      refine J_iconst (pc := 43) X (v := 1) (by decide) dX6_readMark_43 ?_
      refine J_iadd (pc := 44) X dX6_readMark_44 ?_
      refine J_putI (pc := 45) X (isO_lay g10) fp_6_154 dX6_readMark_45 ?_
      refine J_ltH hq (fun h11 hq => ?_)
      refine J_iconst (pc := 48) X (v := 1) (by decide) dX6_readMark_48 ?_
      obtain rfl := Option.some.inj hq
      exact J_zret (pc := 49) X (by decide) dX6_readMark_49
    · have hq := ite_t hq c8
      refine J_iconst (pc := 33) X (v := 0) (by decide) dX6_readMark_33 ?_
      obtain rfl := Option.some.inj hq
      exact J_zret (pc := 34) X (by decide) dX6_readMark_34
  · have hq := ite_f hq c3
    refine J_aload_n (pc := 11) X (j := 0) (i := 0) rfl rfl dX6_readMark_11 ?_
    refine J_iconst (pc := 12) X (v := 4) (by decide) dX6_readMark_12 ?_
    obtain ⟨v13, h12, hc, hq⟩ := bnd_e hq
    refine J_callV (pc := 13) (as := [.inl 4]) (st := []) (st2 := [.inl v13]) (r1 := (some (.inl v13), h12)) (h2 := h12) (ky := 1) X dX6_readMark_13 ca_X6_refuse ci_X6_refuse cs_X6_refuse ml_6_48 (by decide) ly4 rfl rfl (m_X6_refuse _ _ _ hc) rfl rfl (Nat.le_of_ble_eq_true rfl) rfl rfl ?_
    obtain ⟨g14, hq⟩ := gd hq
    obtain rfl := Option.some.inj hq
    exact J_zret (pc := 16) X g14 dX6_readMark_16
theorem m_X6_readMark (h : Hp) (q : (Int32 × Hp)) (hq : f_X6_readMark  h = some q) : ∀ l w, CT l w yX6_readMark cX6_readMark 1 (some .boolean) 4 [.inr (.inr 4)] h (some (.inl q.1), q.2) :=
  CT_of (L0 := [(0, .inr (.inr 4))]) (by decide) rfl (Nat.le_of_ble_eq_true rfl) (fun κ X => tf_X6_readMark X  h q  hq)
theorem tf_X10_turnReads {κ : Kx} (X : OK κ cX10_turnReads 3 (none) "StruckWords$Tongue" 1) (x0 : Nat) (x1 : Int32) (x2 : Int32) (h : Hp) (q : Hp) (lx0 : lay x0 = some (.inl 8)) (hq : f_X10_turnReads x0 x1 x2 h = some q) : J κ 0 [(0, .inr (.inr x0)), (1, .inl x1), (2, .inl x2)] [] h (none, q) := by
  delta f_X10_turnReads at hq
  refine J_aload_n (pc := 0) X (j := 0) (i := 0) rfl rfl dX10_turnReads_0 ?_
  refine J_getF (pc := 1) X (b := x0 + 8) lx0 fl_10_38 rfl dX10_turnReads_1 ?_
  refine J_iload_n (pc := 4) X (j := 1) (i := 1) rfl rfl dX10_turnReads_4 ?_
  refine J_dup2 (pc := 5) X rfl rfl dX10_turnReads_5 ?_
  obtain ⟨g1, hq⟩ := gd hq
  refine J_iaload (pc := 6) X (ly_8_8 lx0) g1 dX10_turnReads_6 ?_
  refine J_iconst (pc := 7) X (v := 1) (by decide) dX10_turnReads_7 ?_
  refine J_iload_n (pc := 8) X (j := 2) (i := 2) rfl rfl dX10_turnReads_8 ?_
  refine J_ishl (pc := 9) X dX10_turnReads_9 ?_
  refine J_ixor (pc := 10) X dX10_turnReads_10 ?_
  obtain ⟨g2, hq⟩ := gd hq
  refine J_iastore (pc := 11) X (ly_8_8 lx0) g2 dX10_turnReads_11 ?_
  refine J_ltH hq (fun h3 hq => ?_)
  obtain rfl := Option.some.inj hq
  exact J_vret (pc := 12) X dX10_turnReads_12
theorem m_X10_turnReads (x0 : Nat) (x1 : Int32) (x2 : Int32) (h : Hp) (q : Hp) (lx0 : lay x0 = some (.inl 8)) (hq : f_X10_turnReads x0 x1 x2 h = some q) : ∀ l w, CT l w yX10_turnReads cX10_turnReads 3 (none) 1 [.inr (.inr x0), .inl x1, .inl x2] h (none, q) :=
  CT_of (L0 := [(0, .inr (.inr x0)), (1, .inl x1), (2, .inl x2)]) (by decide) rfl (Nat.le_of_ble_eq_true rfl) (fun κ X => tf_X10_turnReads X x0 x1 x2 h q lx0 hq)
