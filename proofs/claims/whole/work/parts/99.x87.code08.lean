theorem tB_X13_readReads_73 {κ : Kx} (X : OK κ cX13_readReads 8 (some .boolean) "StruckWordsModel" 4) (h : Hp) (q : (Int32 × Hp)) (hq : B_X13_readReads_73 h = some q) : J κ 73 [(0, .inr (.inr 155))] [] h (some (.inl q.1), q.2) := by
  delta B_X13_readReads_73 at hq
  refine J_aload_n (pc := 73) X (j := 0) (i := 0) rfl rfl dX13_readReads_73 ?_
  refine J_iconst (pc := 74) X (v := 3) (by decide) dX13_readReads_74 ?_
  obtain ⟨v13, h12, hc, hq⟩ := bnd_e hq
  refine J_callV (pc := 75) (as := [.inl 3]) (st := []) (st2 := [.inl v13]) (r1 := (some (.inl v13), h12)) (h2 := h12) (ky := 1) X dX13_readReads_75 ca_X13_bad ci_X13_bad cs_X13_bad ml_13_198 (by decide) ly155 rfl rfl (m_X13_bad _ _ _ hc) rfl rfl (Nat.le_of_ble_eq_true rfl) rfl rfl ?_
  obtain ⟨g14, hq⟩ := gd hq
  obtain rfl := Option.some.inj hq
  exact J_zret (pc := 78) X g14 dX13_readReads_78
theorem tF_X13_readReads_112 {κ : Kx} (X : OK κ cX13_readReads 8 (some .boolean) "StruckWordsModel" 4) (x3 : Int32) (k136 : Hp → Option (Int32 × Hp)) (self : Int32 → Hp → Option (Int32 × Hp)) (x4 : Int32) (h : Hp) (q : (Int32 × Hp)) (hk136 : ∀ (h : Hp) (q : (Int32 × Hp)), k136 h = some q → J κ 136 [(0, .inr (.inr 155)), (3, .inl x3)] [] h (some (.inl q.1), q.2)) (hself : ∀ (x4 : Int32) (h : Hp) (q : (Int32 × Hp)), self x4 h = some q → J κ 112 [(0, .inr (.inr 155)), (3, .inl x3), (4, .inl x4)] [] h (some (.inl q.1), q.2)) (hq : F_X13_readReads_112 x3 k136 self x4 h = some q) : J κ 112 [(0, .inr (.inr 155)), (3, .inl x3), (4, .inl x4)] [] h (some (.inl q.1), q.2) := by
  delta F_X13_readReads_112 at hq
  refine J_iload (pc := 112) X (j := 2) rfl dX13_readReads_112 ?_
  refine J_bipush (pc := 114) X (v := 8) (by decide) dX13_readReads_114 ?_
  refine J_icmp_ge (pc := 116) (tgt := 136) X dX13_readReads_116 rfl (fun c21 => ?_) (fun c21 => ?_)
  · have hq := ite_t hq c21
    refine J_sub [0, 1] rfl ?_
    exact hk136 _ _ hq
  · have hq := ite_f hq c21
    refine J_aload_n (pc := 119) X (j := 0) (i := 0) rfl rfl dX13_readReads_119 ?_
    refine J_getF (pc := 120) X (b := 158) ly155 fl_13_37 rfl dX13_readReads_120 ?_
    refine J_iload_n (pc := 123) X (j := 1) (i := 3) rfl rfl dX13_readReads_123 ?_
    refine J_iload (pc := 124) X (j := 2) rfl dX13_readReads_124 ?_
    refine J_iadd (pc := 126) X dX13_readReads_126 ?_
    refine J_iload (pc := 127) X (j := 2) rfl dX13_readReads_127 ?_
    obtain ⟨g22, hq⟩ := gd hq
    refine J_iastore (pc := 129) X ly158 g22 dX13_readReads_129 ?_
    refine J_ltH hq (fun h23 hq => ?_)
    refine J_iinc (pc := 130) X (j := 2) (v := 1) (L' := [(4, .inl (x4 + 1)), (0, .inr (.inr 155)), (3, .inl x3)]) rfl (by decide) (by decide) rfl dX13_readReads_130 ?_
    refine J_goto (pc := 133) X (tgt := 112) dX13_readReads_133 rfl ?_
    refine J_sub [1, 2, 0] rfl ?_
    exact hself _ _ _ hq
theorem tL_X13_readReads_112 {κ : Kx} (X : OK κ cX13_readReads 8 (some .boolean) "StruckWordsModel" 4) (x3 : Int32) (k136 : Hp → Option (Int32 × Hp)) (N : Nat) (x4 : Int32) (h : Hp) (q : (Int32 × Hp)) (hk136 : ∀ (h : Hp) (q : (Int32 × Hp)), k136 h = some q → J κ 136 [(0, .inr (.inr 155)), (3, .inl x3)] [] h (some (.inl q.1), q.2)) (hq : itr2 (F_X13_readReads_112 x3 k136) N x4 h = some q) : J κ 112 [(0, .inr (.inr 155)), (3, .inl x3), (4, .inl x4)] [] h (some (.inl q.1), q.2) :=
  itr2_ind (fun self hs x4 h q hq => tF_X13_readReads_112 X x3 k136 self x4 h q hk136 hs hq) N x4 h q hq
theorem tB_X13_readReads_315 {κ : Kx} (X : OK κ cX13_readReads 8 (some .boolean) "StruckWordsModel" 4) (x3 : Int32) (x4 : Int32) (x5 : Int32) (x6 : Int32) (k322 : Hp → Option (Int32 × Hp)) (self : Int32 → Hp → Option (Int32 × Hp)) (x7 : Int32) (t0 : Int32) (t1 : Int32) (h : Hp) (q : (Int32 × Hp)) (hk322 : ∀ (h : Hp) (q : (Int32 × Hp)), k322 h = some q → J κ 322 [(0, .inr (.inr 155)), (3, .inl x3), (4, .inl x4)] [] h (some (.inl q.1), q.2)) (hself : ∀ (x7 : Int32) (h : Hp) (q : (Int32 × Hp)), self x7 h = some q → J κ 245 [(0, .inr (.inr 155)), (3, .inl x3), (4, .inl x4), (5, .inl x5), (6, .inl x6), (7, .inl x7)] [] h (some (.inl q.1), q.2)) (hq : B_X13_readReads_315 x3 x4 x5 x6 k322 self x7 t0 t1 h = some q) : J κ 315 [(0, .inr (.inr 155)), (3, .inl x3), (4, .inl x4), (5, .inl x5), (6, .inl x6), (7, .inl x7)] [.inl t0, .inl t1, .inr (.inr 158)] h (some (.inl q.1), q.2) := by
  delta B_X13_readReads_315 at hq
  obtain ⟨g44, hq⟩ := gd hq
  refine J_iastore (pc := 315) X ly158 g44 dX13_readReads_315 ?_
  refine J_ltH hq (fun h45 hq => ?_)
  refine J_iinc (pc := 316) X (j := 5) (v := 1) (L' := [(7, .inl (x7 + 1)), (0, .inr (.inr 155)), (3, .inl x3), (4, .inl x4), (5, .inl x5), (6, .inl x6)]) rfl (by decide) (by decide) rfl dX13_readReads_316 ?_
  refine J_goto (pc := 319) X (tgt := 245) dX13_readReads_319 rfl ?_
  refine J_sub [1, 2, 3, 4, 5, 0] rfl ?_
  exact hself _ _ _ hq
theorem tF_X13_readReads_245 {κ : Kx} (X : OK κ cX13_readReads 8 (some .boolean) "StruckWordsModel" 4) (x3 : Int32) (x4 : Int32) (x5 : Int32) (x6 : Int32) (k322 : Hp → Option (Int32 × Hp)) (self : Int32 → Hp → Option (Int32 × Hp)) (x7 : Int32) (h : Hp) (q : (Int32 × Hp)) (hk322 : ∀ (h : Hp) (q : (Int32 × Hp)), k322 h = some q → J κ 322 [(0, .inr (.inr 155)), (3, .inl x3), (4, .inl x4)] [] h (some (.inl q.1), q.2)) (hself : ∀ (x7 : Int32) (h : Hp) (q : (Int32 × Hp)), self x7 h = some q → J κ 245 [(0, .inr (.inr 155)), (3, .inl x3), (4, .inl x4), (5, .inl x5), (6, .inl x6), (7, .inl x7)] [] h (some (.inl q.1), q.2)) (hq : F_X13_readReads_245 x3 x4 x5 x6 k322 self x7 h = some q) : J κ 245 [(0, .inr (.inr 155)), (3, .inl x3), (4, .inl x4), (5, .inl x5), (6, .inl x6), (7, .inl x7)] [] h (some (.inl q.1), q.2) := by
  delta F_X13_readReads_245 at hq
  refine J_iload (pc := 245) X (j := 5) rfl dX13_readReads_245 ?_
  refine J_bipush (pc := 247) X (v := 8) (by decide) dX13_readReads_247 ?_
  refine J_icmp_ge (pc := 249) (tgt := 322) X dX13_readReads_249 rfl (fun c40 => ?_) (fun c40 => ?_)
  · have hq := ite_t hq c40
    refine J_sub [0, 1, 2] rfl ?_
    exact hk322 _ _ hq
  · have hq := ite_f hq c40
    refine J_aload_n (pc := 252) X (j := 0) (i := 0) rfl rfl dX13_readReads_252 ?_
    refine J_getF (pc := 253) X (b := 158) ly155 fl_13_37 rfl dX13_readReads_253 ?_
    refine J_iload_n (pc := 256) X (j := 1) (i := 3) rfl rfl dX13_readReads_256 ?_
    refine J_iload (pc := 257) X (j := 5) rfl dX13_readReads_257 ?_
    refine J_iadd (pc := 259) X dX13_readReads_259 ?_
    refine J_iload (pc := 260) X (j := 3) rfl dX13_readReads_260 ?_
    refine J_if_ne (pc := 262) (tgt := 280) X dX13_readReads_262 rfl (fun c41 => ?_) (fun c41 => ?_)
    · have hq := ite_f hq c41
      refine J_iload (pc := 280) X (j := 3) rfl dX13_readReads_280 ?_
      refine J_iconst (pc := 282) X (v := 1) (by decide) dX13_readReads_282 ?_
      refine J_icmp_ne (pc := 283) (tgt := 303) X dX13_readReads_283 rfl (fun c42 => ?_) (fun c42 => ?_)
      · have hq := ite_f hq c42
        refine J_aload_n (pc := 303) X (j := 0) (i := 0) rfl rfl dX13_readReads_303 ?_
        refine J_getF (pc := 304) X (b := 158) ly155 fl_13_37 rfl dX13_readReads_304 ?_
        refine J_iload_n (pc := 307) X (j := 1) (i := 3) rfl rfl dX13_readReads_307 ?_
        refine J_iload (pc := 308) X (j := 5) rfl dX13_readReads_308 ?_
        refine J_iadd (pc := 310) X dX13_readReads_310 ?_
        obtain ⟨g43, hq⟩ := gd hq
        refine J_iaload (pc := 311) X ly158 g43 dX13_readReads_311 ?_
        refine J_iload (pc := 312) X (j := 4) rfl dX13_readReads_312 ?_
        refine J_ixor (pc := 314) X dX13_readReads_314 ?_
        exact tB_X13_readReads_315 X _ _ _ _ _ _ _ _ _ _ _ hk322 hself hq
      · have hq := ite_t hq c42
        refine J_aload_n (pc := 286) X (j := 0) (i := 0) rfl rfl dX13_readReads_286 ?_
        refine J_getF (pc := 287) X (b := 158) ly155 fl_13_37 rfl dX13_readReads_287 ?_
        refine J_iload_n (pc := 290) X (j := 1) (i := 3) rfl rfl dX13_readReads_290 ?_
        refine J_iload (pc := 291) X (j := 5) rfl dX13_readReads_291 ?_
        refine J_iadd (pc := 293) X dX13_readReads_293 ?_
        obtain ⟨g46, hq⟩ := gd hq
        refine J_iaload (pc := 294) X ly158 g46 dX13_readReads_294 ?_
        refine J_iload (pc := 295) X (j := 4) rfl dX13_readReads_295 ?_
        refine J_iconst (pc := 297) X (v := (-1)) (by decide) dX13_readReads_297 ?_
        refine J_ixor (pc := 298) X dX13_readReads_298 ?_
        refine J_iand (pc := 299) X dX13_readReads_299 ?_
        refine J_goto (pc := 300) X (tgt := 315) dX13_readReads_300 rfl ?_
        exact tB_X13_readReads_315 X _ _ _ _ _ _ _ _ _ _ _ hk322 hself hq
    · have hq := ite_t hq c41
      refine J_aload_n (pc := 265) X (j := 0) (i := 0) rfl rfl dX13_readReads_265 ?_
      refine J_getF (pc := 266) X (b := 158) ly155 fl_13_37 rfl dX13_readReads_266 ?_
      refine J_iload_n (pc := 269) X (j := 1) (i := 3) rfl rfl dX13_readReads_269 ?_
      refine J_iload (pc := 270) X (j := 5) rfl dX13_readReads_270 ?_
      refine J_iadd (pc := 272) X dX13_readReads_272 ?_
      obtain ⟨g47, hq⟩ := gd hq
      refine J_iaload (pc := 273) X ly158 g47 dX13_readReads_273 ?_
      refine J_iload (pc := 274) X (j := 4) rfl dX13_readReads_274 ?_
      refine J_ior (pc := 276) X dX13_readReads_276 ?_
      refine J_goto (pc := 277) X (tgt := 315) dX13_readReads_277 rfl ?_
      exact tB_X13_readReads_315 X _ _ _ _ _ _ _ _ _ _ _ hk322 hself hq
theorem tL_X13_readReads_245 {κ : Kx} (X : OK κ cX13_readReads 8 (some .boolean) "StruckWordsModel" 4) (x3 : Int32) (x4 : Int32) (x5 : Int32) (x6 : Int32) (k322 : Hp → Option (Int32 × Hp)) (N : Nat) (x7 : Int32) (h : Hp) (q : (Int32 × Hp)) (hk322 : ∀ (h : Hp) (q : (Int32 × Hp)), k322 h = some q → J κ 322 [(0, .inr (.inr 155)), (3, .inl x3), (4, .inl x4)] [] h (some (.inl q.1), q.2)) (hq : itr2 (F_X13_readReads_245 x3 x4 x5 x6 k322) N x7 h = some q) : J κ 245 [(0, .inr (.inr 155)), (3, .inl x3), (4, .inl x4), (5, .inl x5), (6, .inl x6), (7, .inl x7)] [] h (some (.inl q.1), q.2) :=
  itr2_ind (fun self hs x7 h q hq => tF_X13_readReads_245 X x3 x4 x5 x6 k322 self x7 h q hk322 hs hq) N x7 h q hq
theorem tB_X13_readReads_211 {κ : Kx} (X : OK κ cX13_readReads 8 (some .boolean) "StruckWordsModel" 4) (x3 : Int32) (k176 : Hp → Option (Int32 × Hp)) (k232 : Hp → Option (Int32 × Hp)) (k328 : Hp → Option (Int32 × Hp)) (self : Int32 → Hp → Option (Int32 × Hp)) (x4 : Int32) (t0 : Int32) (h : Hp) (q : (Int32 × Hp)) (hk176 : ∀ (h : Hp) (q : (Int32 × Hp)), k176 h = some q → J κ 176 [(0, .inr (.inr 155))] [] h (some (.inl q.1), q.2)) (hk232 : ∀ (h : Hp) (q : (Int32 × Hp)), k232 h = some q → J κ 232 [] [] h (some (.inl q.1), q.2)) (hk328 : ∀ (h : Hp) (q : (Int32 × Hp)), k328 h = some q → J κ 328 [] [] h (some (.inl q.1), q.2)) (hself : ∀ (x4 : Int32) (h : Hp) (q : (Int32 × Hp)), self x4 h = some q → J κ 139 [(0, .inr (.inr 155)), (3, .inl x3), (4, .inl x4)] [] h (some (.inl q.1), q.2)) (hq : B_X13_readReads_211 x3 k176 k232 k328 self x4 t0 h = some q) : J κ 211 [(0, .inr (.inr 155)), (3, .inl x3), (4, .inl x4)] [.inl t0] h (some (.inl q.1), q.2) := by
  delta B_X13_readReads_211 at hq
  refine J_istore (pc := 211) X (L' := [(5, .inl t0), (0, .inr (.inr 155)), (3, .inl x3), (4, .inl x4)]) (by decide) rfl dX13_readReads_211 ?_
  refine J_aload_n (pc := 213) X (j := 1) (i := 0) rfl rfl dX13_readReads_213 ?_
  obtain ⟨h35, hc, hq⟩ := bnv_e hq
  refine J_callV (pc := 214) (as := []) (st := []) (st2 := []) (r1 := (none, h35)) (h2 := h35) (ky := 2) X dX13_readReads_214 ca_X13_next ci_X13_next cs_X13_next ml_13_201 (by decide) ly155 rfl rfl (m_X13_next _ _ hc) rfl rfl (Nat.le_of_ble_eq_true rfl) rfl rfl ?_
  refine J_aload_n (pc := 217) X (j := 1) (i := 0) rfl rfl dX13_readReads_217 ?_
  refine J_bipush (pc := 218) X (v := 21) (by decide) dX13_readReads_218 ?_
  refine J_aload_n (pc := 220) X (j := 1) (i := 0) rfl rfl dX13_readReads_220 ?_
  refine J_getF (pc := 221) X (b := 158) ly155 fl_13_37 rfl dX13_readReads_221 ?_
  refine J_iconst (pc := 224) X (v := 1) (by decide) dX13_readReads_224 ?_
  refine J_iaload (pc := 225) X ly158 (by decide) dX13_readReads_225 ?_
  obtain ⟨v37, h36, hc, hq⟩ := bnd_e hq
  refine J_callV (pc := 226) (as := [.inl 21, .inl (h35.1 158 ((1 : Int32).toNatClampNeg))]) (st := []) (st2 := [.inl v37]) (r1 := (some (.inl v37), h36)) (h2 := h36) (ky := 3) X dX13_readReads_226 ca_X13_takesName ci_X13_takesName cs_X13_takesName ml_13_244 (by decide) ly155 rfl rfl (m_X13_takesName _ _ _ _ hc) rfl rfl (Nat.le_of_ble_eq_true rfl) rfl rfl ?_
  refine J_if_ne (pc := 229) (tgt := 234) X dX13_readReads_229 rfl (fun c38 => ?_) (fun c38 => ?_)
  · have hq := ite_f hq c38
    refine J_iconst (pc := 234) X (v := 1) (by decide) dX13_readReads_234 ?_
    refine J_aload_n (pc := 235) X (j := 1) (i := 0) rfl rfl dX13_readReads_235 ?_
    refine J_getI (pc := 236) X ly155 fl_13_208 dX13_readReads_236 ?_
    refine J_ishl (pc := 239) X dX13_readReads_239 ?_
    refine J_ltI hq (fun v39 hq => ?_)
    refine J_istore (pc := 240) X (L' := [(6, .inl v39), (5, .inl t0), (0, .inr (.inr 155)), (3, .inl x3), (4, .inl x4)]) (by decide) rfl dX13_readReads_240 ?_
    refine J_iconst (pc := 242) X (v := 0) (by decide) dX13_readReads_242 ?_
    refine J_istore (pc := 243) X (L' := [(7, .inl 0), (6, .inl v39), (5, .inl t0), (0, .inr (.inr 155)), (3, .inl x3), (4, .inl x4)]) (by decide) rfl dX13_readReads_243 ?_
    refine J_sub [3, 4, 5, 2, 1, 0] rfl ?_
    refine tL_X13_readReads_245 X _ _ _ _ _ N0 _ _ _ ?_ hq
    · intro h48 q hq
      refine J_iinc (pc := 322) X (j := 2) (v := 1) (L' := [(4, .inl (x4 + 1)), (0, .inr (.inr 155)), (3, .inl x3)]) rfl (by decide) (by decide) rfl dX13_readReads_322 ?_
      refine J_goto (pc := 325) X (tgt := 139) dX13_readReads_325 rfl ?_
      refine J_sub [1, 2, 0] rfl ?_
      exact hself _ _ _ hq
  · have hq := ite_t hq c38
    refine J_sub [] rfl ?_
    exact hk232 _ _ hq
theorem tB_X13_readReads_169 {κ : Kx} (X : OK κ cX13_readReads 8 (some .boolean) "StruckWordsModel" 4) (x3 : Int32) (k176 : Hp → Option (Int32 × Hp)) (k232 : Hp → Option (Int32 × Hp)) (k328 : Hp → Option (Int32 × Hp)) (self : Int32 → Hp → Option (Int32 × Hp)) (x4 : Int32) (h : Hp) (q : (Int32 × Hp)) (hk176 : ∀ (h : Hp) (q : (Int32 × Hp)), k176 h = some q → J κ 176 [(0, .inr (.inr 155))] [] h (some (.inl q.1), q.2)) (hk232 : ∀ (h : Hp) (q : (Int32 × Hp)), k232 h = some q → J κ 232 [] [] h (some (.inl q.1), q.2)) (hk328 : ∀ (h : Hp) (q : (Int32 × Hp)), k328 h = some q → J κ 328 [] [] h (some (.inl q.1), q.2)) (hself : ∀ (x4 : Int32) (h : Hp) (q : (Int32 × Hp)), self x4 h = some q → J κ 139 [(0, .inr (.inr 155)), (3, .inl x3), (4, .inl x4)] [] h (some (.inl q.1), q.2)) (hq : B_X13_readReads_169 x3 k176 k232 k328 self x4 h = some q) : J κ 169 [(0, .inr (.inr 155)), (3, .inl x3), (4, .inl x4)] [] h (some (.inl q.1), q.2) := by
  delta B_X13_readReads_169 at hq
  refine J_iload (pc := 169) X (j := 2) rfl dX13_readReads_169 ?_
  refine J_bipush (pc := 171) X (v := 6) (by decide) dX13_readReads_171 ?_
  refine J_icmp_ne (pc := 173) (tgt := 182) X dX13_readReads_173 rfl (fun c28 => ?_) (fun c28 => ?_)
  · have hq := ite_f hq c28
    refine J_aload_n (pc := 182) X (j := 0) (i := 0) rfl rfl dX13_readReads_182 ?_
    refine J_ldc2 (pc := 183) X cl_13_149 dX13_readReads_183 ?_
    obtain ⟨v30, h29, hc, hq⟩ := bnd_e hq
    refine J_callV (pc := 186) (as := [.inr (.inl 1936028787)]) (st := []) (st2 := [.inl v30]) (r1 := (some (.inl v30), h29)) (h2 := h29) (ky := 1) X dX13_readReads_186 ca_X13_isWord ci_X13_isWord cs_X13_isWord ml_13_219 (by decide) ly155 rfl rfl (m_X13_isWord _ _ _ hc) rfl rfl (Nat.le_of_ble_eq_true rfl) rfl rfl ?_
    refine J_if_eq (pc := 189) (tgt := 196) X dX13_readReads_189 rfl (fun c31 => ?_) (fun c31 => ?_)
    · have hq := ite_t hq c31
      refine J_aload_n (pc := 196) X (j := 0) (i := 0) rfl rfl dX13_readReads_196 ?_
      refine J_ldc2 (pc := 197) X cl_13_151 dX13_readReads_197 ?_
      obtain ⟨v33, h32, hc, hq⟩ := bnd_e hq
      refine J_callV (pc := 200) (as := [.inr (.inl 109317208502899)]) (st := []) (st2 := [.inl v33]) (r1 := (some (.inl v33), h32)) (h2 := h32) (ky := 1) X dX13_readReads_200 ca_X13_isWord ci_X13_isWord cs_X13_isWord ml_13_219 (by decide) ly155 rfl rfl (m_X13_isWord _ _ _ hc) rfl rfl (Nat.le_of_ble_eq_true rfl) rfl rfl ?_
      refine J_if_eq (pc := 203) (tgt := 210) X dX13_readReads_203 rfl (fun c34 => ?_) (fun c34 => ?_)
      · have hq := ite_t hq c34
        refine J_iconst (pc := 210) X (v := 2) (by decide) dX13_readReads_210 ?_
        exact tB_X13_readReads_211 X _ _ _ _ _ _ _ _ _ hk176 hk232 hk328 hself hq
      · have hq := ite_f hq c34
        refine J_iconst (pc := 206) X (v := 1) (by decide) dX13_readReads_206 ?_
        refine J_goto (pc := 207) X (tgt := 211) dX13_readReads_207 rfl ?_
        exact tB_X13_readReads_211 X _ _ _ _ _ _ _ _ _ hk176 hk232 hk328 hself hq
    · have hq := ite_f hq c31
      refine J_iconst (pc := 192) X (v := 0) (by decide) dX13_readReads_192 ?_
      refine J_goto (pc := 193) X (tgt := 211) dX13_readReads_193 rfl ?_
      exact tB_X13_readReads_211 X _ _ _ _ _ _ _ _ _ hk176 hk232 hk328 hself hq
  · have hq := ite_t hq c28
    refine J_sub [0] rfl ?_
    exact hk176 _ _ hq
theorem tF_X13_readReads_139 {κ : Kx} (X : OK κ cX13_readReads 8 (some .boolean) "StruckWordsModel" 4) (x3 : Int32) (k176 : Hp → Option (Int32 × Hp)) (k232 : Hp → Option (Int32 × Hp)) (k328 : Hp → Option (Int32 × Hp)) (self : Int32 → Hp → Option (Int32 × Hp)) (x4 : Int32) (h : Hp) (q : (Int32 × Hp)) (hk176 : ∀ (h : Hp) (q : (Int32 × Hp)), k176 h = some q → J κ 176 [(0, .inr (.inr 155))] [] h (some (.inl q.1), q.2)) (hk232 : ∀ (h : Hp) (q : (Int32 × Hp)), k232 h = some q → J κ 232 [] [] h (some (.inl q.1), q.2)) (hk328 : ∀ (h : Hp) (q : (Int32 × Hp)), k328 h = some q → J κ 328 [] [] h (some (.inl q.1), q.2)) (hself : ∀ (x4 : Int32) (h : Hp) (q : (Int32 × Hp)), self x4 h = some q → J κ 139 [(0, .inr (.inr 155)), (3, .inl x3), (4, .inl x4)] [] h (some (.inl q.1), q.2)) (hq : F_X13_readReads_139 x3 k176 k232 k328 self x4 h = some q) : J κ 139 [(0, .inr (.inr 155)), (3, .inl x3), (4, .inl x4)] [] h (some (.inl q.1), q.2) := by
  delta F_X13_readReads_139 at hq
  refine J_aload_n (pc := 139) X (j := 0) (i := 0) rfl rfl dX13_readReads_139 ?_
  refine J_ldc2 (pc := 140) X cl_13_149 dX13_readReads_140 ?_
  obtain ⟨v26, h25, hc, hq⟩ := bnd_e hq
  refine J_callV (pc := 143) (as := [.inr (.inl 1936028787)]) (st := []) (st2 := [.inl v26]) (r1 := (some (.inl v26), h25)) (h2 := h25) (ky := 1) X dX13_readReads_143 ca_X13_isWord ci_X13_isWord cs_X13_isWord ml_13_219 (by decide) ly155 rfl rfl (m_X13_isWord _ _ _ hc) rfl rfl (Nat.le_of_ble_eq_true rfl) rfl rfl ?_
  refine J_if_ne (pc := 146) (tgt := 169) X dX13_readReads_146 rfl (fun c27 => ?_) (fun c27 => ?_)
  · have hq := ite_f hq c27
    exact tB_X13_readReads_169 X _ _ _ _ _ _ _ _ hk176 hk232 hk328 hself hq
  · have hq := ite_t hq c27
    refine J_aload_n (pc := 149) X (j := 0) (i := 0) rfl rfl dX13_readReads_149 ?_
    refine J_ldc2 (pc := 150) X cl_13_151 dX13_readReads_150 ?_
    obtain ⟨v50, h49, hc, hq⟩ := bnd_e hq
    refine J_callV (pc := 153) (as := [.inr (.inl 109317208502899)]) (st := []) (st2 := [.inl v50]) (r1 := (some (.inl v50), h49)) (h2 := h49) (ky := 1) X dX13_readReads_153 ca_X13_isWord ci_X13_isWord cs_X13_isWord ml_13_219 (by decide) ly155 rfl rfl (m_X13_isWord _ _ _ hc) rfl rfl (Nat.le_of_ble_eq_true rfl) rfl rfl ?_
    refine J_if_ne (pc := 156) (tgt := 169) X dX13_readReads_156 rfl (fun c51 => ?_) (fun c51 => ?_)
    · have hq := ite_f hq c51
      exact tB_X13_readReads_169 X _ _ _ _ _ _ _ _ hk176 hk232 hk328 hself hq
    · have hq := ite_t hq c51
      refine J_aload_n (pc := 159) X (j := 0) (i := 0) rfl rfl dX13_readReads_159 ?_
      refine J_ldc2 (pc := 160) X cl_13_153 dX13_readReads_160 ?_
      obtain ⟨v53, h52, hc, hq⟩ := bnd_e hq
      refine J_callV (pc := 163) (as := [.inr (.inl 500186639987)]) (st := []) (st2 := [.inl v53]) (r1 := (some (.inl v53), h52)) (h2 := h52) (ky := 1) X dX13_readReads_163 ca_X13_isWord ci_X13_isWord cs_X13_isWord ml_13_219 (by decide) ly155 rfl rfl (m_X13_isWord _ _ _ hc) rfl rfl (Nat.le_of_ble_eq_true rfl) rfl rfl ?_
      refine J_if_eq (pc := 166) (tgt := 328) X dX13_readReads_166 rfl (fun c54 => ?_) (fun c54 => ?_)
      · have hq := ite_t hq c54
        refine J_sub [] rfl ?_
        exact hk328 _ _ hq
      · have hq := ite_f hq c54
        exact tB_X13_readReads_169 X _ _ _ _ _ _ _ _ hk176 hk232 hk328 hself hq
theorem tL_X13_readReads_139 {κ : Kx} (X : OK κ cX13_readReads 8 (some .boolean) "StruckWordsModel" 4) (x3 : Int32) (k176 : Hp → Option (Int32 × Hp)) (k232 : Hp → Option (Int32 × Hp)) (k328 : Hp → Option (Int32 × Hp)) (N : Nat) (x4 : Int32) (h : Hp) (q : (Int32 × Hp)) (hk176 : ∀ (h : Hp) (q : (Int32 × Hp)), k176 h = some q → J κ 176 [(0, .inr (.inr 155))] [] h (some (.inl q.1), q.2)) (hk232 : ∀ (h : Hp) (q : (Int32 × Hp)), k232 h = some q → J κ 232 [] [] h (some (.inl q.1), q.2)) (hk328 : ∀ (h : Hp) (q : (Int32 × Hp)), k328 h = some q → J κ 328 [] [] h (some (.inl q.1), q.2)) (hq : itr2 (F_X13_readReads_139 x3 k176 k232 k328) N x4 h = some q) : J κ 139 [(0, .inr (.inr 155)), (3, .inl x3), (4, .inl x4)] [] h (some (.inl q.1), q.2) :=
  itr2_ind (fun self hs x4 h q hq => tF_X13_readReads_139 X x3 k176 k232 k328 self x4 h q hk176 hk232 hk328 hs hq) N x4 h q hq
theorem tf_X13_readReads {κ : Kx} (X : OK κ cX13_readReads 8 (some .boolean) "StruckWordsModel" 4) (h : Hp) (q : (Int32 × Hp)) (hq : f_X13_readReads h = some q) : J κ 0 [(0, .inr (.inr 155))] [] h (some (.inl q.1), q.2) := by
  delta f_X13_readReads at hq
  refine J_aload_n (pc := 0) X (j := 0) (i := 0) rfl rfl dX13_readReads_0 ?_
  obtain ⟨h1, hc, hq⟩ := bnv_e hq
  refine J_callV (pc := 1) (as := []) (st := []) (st2 := []) (r1 := (none, h1)) (h2 := h1) (ky := 2) X dX13_readReads_1 ca_X13_next ci_X13_next cs_X13_next ml_13_201 (by decide) ly155 rfl rfl (m_X13_next _ _ hc) rfl rfl (Nat.le_of_ble_eq_true rfl) rfl rfl ?_
  refine J_aload_n (pc := 4) X (j := 0) (i := 0) rfl rfl dX13_readReads_4 ?_
  refine J_bipush (pc := 5) X (v := 24) (by decide) dX13_readReads_5 ?_
  refine J_aload_n (pc := 7) X (j := 0) (i := 0) rfl rfl dX13_readReads_7 ?_
  refine J_getF (pc := 8) X (b := 158) ly155 fl_13_37 rfl dX13_readReads_8 ?_
  refine J_iconst (pc := 11) X (v := 2) (by decide) dX13_readReads_11 ?_
  refine J_iaload (pc := 12) X ly158 (by decide) dX13_readReads_12 ?_
  obtain ⟨v3, h2, hc, hq⟩ := bnd_e hq
  refine J_callV (pc := 13) (as := [.inl 24, .inl (h1.1 158 ((2 : Int32).toNatClampNeg))]) (st := []) (st2 := [.inl v3]) (r1 := (some (.inl v3), h2)) (h2 := h2) (ky := 3) X dX13_readReads_13 ca_X13_takesName ci_X13_takesName cs_X13_takesName ml_13_244 (by decide) ly155 rfl rfl (m_X13_takesName _ _ _ _ hc) rfl rfl (Nat.le_of_ble_eq_true rfl) rfl rfl ?_
  refine J_if_ne (pc := 16) (tgt := 21) X dX13_readReads_16 rfl (fun c4 => ?_) (fun c4 => ?_)
  · have hq := ite_f hq c4
    refine J_aload_n (pc := 21) X (j := 0) (i := 0) rfl rfl dX13_readReads_21 ?_
    refine J_getI (pc := 22) X ly155 fl_13_208 dX13_readReads_22 ?_
    refine J_ltI hq (fun v5 hq => ?_)
    refine J_istore_n (pc := 25) X (L' := [(1, .inl v5), (0, .inr (.inr 155))]) (i := 1) rfl (by decide) rfl dX13_readReads_25 ?_
    refine J_aload_n (pc := 26) X (j := 1) (i := 0) rfl rfl dX13_readReads_26 ?_
    obtain ⟨v7, h6, hc, hq⟩ := bnd_e hq
    refine J_callV (pc := 27) (as := []) (st := []) (st2 := [.inl v7]) (r1 := (some (.inl v7), h6)) (h2 := h6) (ky := 1) X dX13_readReads_27 ca_X13_isName ci_X13_isName cs_X13_isName ml_13_211 (by decide) ly155 rfl rfl (m_X13_isName _ _ hc) rfl rfl (Nat.le_of_ble_eq_true rfl) rfl rfl ?_
    refine J_if_ne (pc := 30) (tgt := 39) X dX13_readReads_30 rfl (fun c8 => ?_) (fun c8 => ?_)
    · have hq := ite_f hq c8
      refine J_aload_n (pc := 39) X (j := 1) (i := 0) rfl rfl dX13_readReads_39 ?_
      refine J_bipush (pc := 40) X (v := 16) (by decide) dX13_readReads_40 ?_
      refine J_aload_n (pc := 42) X (j := 1) (i := 0) rfl rfl dX13_readReads_42 ?_
      refine J_getF (pc := 43) X (b := 158) ly155 fl_13_37 rfl dX13_readReads_43 ?_
      refine J_iconst (pc := 46) X (v := 0) (by decide) dX13_readReads_46 ?_
      refine J_iaload (pc := 47) X ly158 (by decide) dX13_readReads_47 ?_
      obtain ⟨v10, h9, hc, hq⟩ := bnd_e hq
      refine J_callV (pc := 48) (as := [.inl 16, .inl (h6.1 158 ((0 : Int32).toNatClampNeg))]) (st := []) (st2 := [.inl v10]) (r1 := (some (.inl v10), h9)) (h2 := h9) (ky := 1) X dX13_readReads_48 ca_X13_find ci_X13_find cs_X13_find ml_13_215 (by decide) ly155 rfl rfl (m_X13_find _ _ _ _ hc) rfl rfl (Nat.le_of_ble_eq_true rfl) rfl rfl ?_
      refine J_istore_n (pc := 51) X (L' := [(2, .inl v10), (1, .inl v5), (0, .inr (.inr 155))]) (i := 2) rfl (by decide) rfl dX13_readReads_51 ?_
      refine J_iload_n (pc := 52) X (j := 0) (i := 2) rfl rfl dX13_readReads_52 ?_
      refine J_if_lt (pc := 53) (tgt := 73) X dX13_readReads_53 rfl (fun c11 => ?_) (fun c11 => ?_)
      · have hq := ite_t hq c11
        refine J_sub [2] rfl ?_
        exact tB_X13_readReads_73 X _ _ hq
      · have hq := ite_f hq c11
        refine J_aload_n (pc := 56) X (j := 2) (i := 0) rfl rfl dX13_readReads_56 ?_
        refine J_getF (pc := 57) X (b := 158) ly155 fl_13_37 rfl dX13_readReads_57 ?_
        refine J_bipush (pc := 60) X (v := 72) (by decide) dX13_readReads_60 ?_
        refine J_iconst (pc := 62) X (v := 5) (by decide) dX13_readReads_62 ?_
        refine J_iload_n (pc := 63) X (j := 1) (i := 1) rfl rfl dX13_readReads_63 ?_
        refine J_imul (pc := 64) X dX13_readReads_64 ?_
        refine J_iadd (pc := 65) X dX13_readReads_65 ?_
        refine J_iload_n (pc := 66) X (j := 0) (i := 2) rfl rfl dX13_readReads_66 ?_
        refine J_iadd (pc := 67) X dX13_readReads_67 ?_
        obtain ⟨g15, hq⟩ := gd hq
        refine J_iaload (pc := 68) X ly158 g15 dX13_readReads_68 ?_
        refine J_iconst (pc := 69) X (v := 1) (by decide) dX13_readReads_69 ?_
        refine J_icmp_ne (pc := 70) (tgt := 79) X dX13_readReads_70 rfl (fun c16 => ?_) (fun c16 => ?_)
        · have hq := ite_f hq c16
          refine J_aload_n (pc := 79) X (j := 2) (i := 0) rfl rfl dX13_readReads_79 ?_
          obtain ⟨h17, hc, hq⟩ := bnv_e hq
          refine J_callV (pc := 80) (as := []) (st := []) (st2 := []) (r1 := (none, h17)) (h2 := h17) (ky := 2) X dX13_readReads_80 ca_X13_next ci_X13_next cs_X13_next ml_13_201 (by decide) ly155 rfl rfl (m_X13_next _ _ hc) rfl rfl (Nat.le_of_ble_eq_true rfl) rfl rfl ?_
          refine J_aload_n (pc := 83) X (j := 2) (i := 0) rfl rfl dX13_readReads_83 ?_
          refine J_getF (pc := 84) X (b := 158) ly155 fl_13_37 rfl dX13_readReads_84 ?_
          refine J_bipush (pc := 87) X (v := 72) (by decide) dX13_readReads_87 ?_
          refine J_iconst (pc := 89) X (v := 5) (by decide) dX13_readReads_89 ?_
          refine J_iload_n (pc := 90) X (j := 1) (i := 1) rfl rfl dX13_readReads_90 ?_
          refine J_imul (pc := 91) X dX13_readReads_91 ?_
          refine J_iadd (pc := 92) X dX13_readReads_92 ?_
          refine J_iload_n (pc := 93) X (j := 0) (i := 2) rfl rfl dX13_readReads_93 ?_
          refine J_iadd (pc := 94) X dX13_readReads_94 ?_
          refine J_iconst (pc := 95) X (v := 1) (by decide) dX13_readReads_95 ?_
          obtain ⟨g18, hq⟩ := gd hq
          refine J_iastore (pc := 96) X ly158 g18 dX13_readReads_96 ?_
          refine J_ltH hq (fun h19 hq => ?_)
          refine J_bipush (pc := 97) X (v := 112) (by decide) dX13_readReads_97 ?_
          refine J_bipush (pc := 99) X (v := 8) (by decide) dX13_readReads_99 ?_
          refine J_iconst (pc := 101) X (v := 5) (by decide) dX13_readReads_101 ?_
          refine J_iload_n (pc := 102) X (j := 1) (i := 1) rfl rfl dX13_readReads_102 ?_
          refine J_imul (pc := 103) X dX13_readReads_103 ?_
          refine J_iload_n (pc := 104) X (j := 0) (i := 2) rfl rfl dX13_readReads_104 ?_
          refine J_iadd (pc := 105) X dX13_readReads_105 ?_
          refine J_imul (pc := 106) X dX13_readReads_106 ?_
          refine J_iadd (pc := 107) X dX13_readReads_107 ?_
          refine J_ltI hq (fun v20 hq => ?_)
          refine J_istore_n (pc := 108) X (L' := [(3, .inl v20), (2, .inl v10), (1, .inl v5), (0, .inr (.inr 155))]) (i := 3) rfl (by decide) rfl dX13_readReads_108 ?_
          refine J_iconst (pc := 109) X (v := 0) (by decide) dX13_readReads_109 ?_
          refine J_istore (pc := 110) X (L' := [(4, .inl 0), (3, .inl v20), (2, .inl v10), (1, .inl v5), (0, .inr (.inr 155))]) (by decide) rfl dX13_readReads_110 ?_
          refine J_sub [4, 1, 0] rfl ?_
          refine tL_X13_readReads_112 X _ _ N0 _ _ _ ?_ hq
          · intro h24 q hq
            refine J_iconst (pc := 136) X (v := 0) (by decide) dX13_readReads_136 ?_
            refine J_istore (pc := 137) X (L' := [(4, .inl 0), (0, .inr (.inr 155)), (3, .inl v20)]) (by decide) rfl dX13_readReads_137 ?_
            refine J_sub [1, 2, 0] rfl ?_
            refine tL_X13_readReads_139 X _ _ _ _ N0 _ _ _ ?_ ?_ ?_ hq
            · intro h55 q hq
              refine J_aload_n (pc := 176) X (j := 0) (i := 0) rfl rfl dX13_readReads_176 ?_
              refine J_iconst (pc := 177) X (v := 4) (by decide) dX13_readReads_177 ?_
              obtain ⟨v57, h56, hc, hq⟩ := bnd_e hq
              refine J_callV (pc := 178) (as := [.inl 4]) (st := []) (st2 := [.inl v57]) (r1 := (some (.inl v57), h56)) (h2 := h56) (ky := 1) X dX13_readReads_178 ca_X13_bad ci_X13_bad cs_X13_bad ml_13_198 (by decide) ly155 rfl rfl (m_X13_bad _ _ _ hc) rfl rfl (Nat.le_of_ble_eq_true rfl) rfl rfl ?_
              obtain ⟨g58, hq⟩ := gd hq
              obtain rfl := Option.some.inj hq
              exact J_zret (pc := 181) X g58 dX13_readReads_181
            · intro h59 q hq
              refine J_iconst (pc := 232) X (v := 0) (by decide) dX13_readReads_232 ?_
              obtain rfl := Option.some.inj hq
              exact J_zret (pc := 233) X (by decide) dX13_readReads_233
            · intro h60 q hq
              refine J_iconst (pc := 328) X (v := 1) (by decide) dX13_readReads_328 ?_
              obtain rfl := Option.some.inj hq
              exact J_zret (pc := 329) X (by decide) dX13_readReads_329
        · have hq := ite_t hq c16
          refine J_sub [2] rfl ?_
          exact tB_X13_readReads_73 X _ _ hq
    · have hq := ite_t hq c8
      refine J_aload_n (pc := 33) X (j := 1) (i := 0) rfl rfl dX13_readReads_33 ?_
      refine J_iconst (pc := 34) X (v := 1) (by decide) dX13_readReads_34 ?_
      obtain ⟨v62, h61, hc, hq⟩ := bnd_e hq
      refine J_callV (pc := 35) (as := [.inl 1]) (st := []) (st2 := [.inl v62]) (r1 := (some (.inl v62), h61)) (h2 := h61) (ky := 1) X dX13_readReads_35 ca_X13_bad ci_X13_bad cs_X13_bad ml_13_198 (by decide) ly155 rfl rfl (m_X13_bad _ _ _ hc) rfl rfl (Nat.le_of_ble_eq_true rfl) rfl rfl ?_
      obtain ⟨g63, hq⟩ := gd hq
      obtain rfl := Option.some.inj hq
      exact J_zret (pc := 38) X g63 dX13_readReads_38
  · have hq := ite_t hq c4
    refine J_iconst (pc := 19) X (v := 0) (by decide) dX13_readReads_19 ?_
    obtain rfl := Option.some.inj hq
    exact J_zret (pc := 20) X (by decide) dX13_readReads_20
theorem m_X13_readReads (h : Hp) (q : (Int32 × Hp)) (hq : f_X13_readReads  h = some q) : ∀ l w, CT l w yX13_readReads cX13_readReads 8 (some .boolean) 4 [.inr (.inr 155)] h (some (.inl q.1), q.2) :=
  CT_of (L0 := [(0, .inr (.inr 155))]) (by decide) rfl (Nat.le_of_ble_eq_true rfl) (fun κ X => tf_X13_readReads X  h q  hq)
theorem tB_X13_readSort_90 {κ : Kx} (X : OK κ cX13_readSort 3 (some .boolean) "StruckWordsModel" 4) (x1 : Int32) (k103 : Hp → Option (Int32 × Hp)) (k123 : Hp → Option (Int32 × Hp)) (self : Hp → Option (Int32 × Hp)) (t0 : Int32) (h : Hp) (q : (Int32 × Hp)) (hk103 : ∀ (h : Hp) (q : (Int32 × Hp)), k103 h = some q → J κ 103 [(0, .inr (.inr 155))] [] h (some (.inl q.1), q.2)) (hk123 : ∀ (h : Hp) (q : (Int32 × Hp)), k123 h = some q → J κ 123 [(0, .inr (.inr 155))] [] h (some (.inl q.1), q.2)) (hself : ∀ (h : Hp) (q : (Int32 × Hp)), self h = some q → J κ 54 [(0, .inr (.inr 155)), (1, .inl x1)] [] h (some (.inl q.1), q.2)) (hq : B_X13_readSort_90 x1 k103 k123 self t0 h = some q) : J κ 90 [(0, .inr (.inr 155)), (1, .inl x1)] [.inl t0] h (some (.inl q.1), q.2) := by
  delta B_X13_readSort_90 at hq
  refine J_iload_n (pc := 90) X (j := 1) (i := 1) rfl rfl dX13_readSort_90 ?_
  refine J_iadd (pc := 91) X dX13_readSort_91 ?_
  refine J_ltI hq (fun v17 hq => ?_)
  refine J_istore_n (pc := 92) X (L' := [(2, .inl v17), (0, .inr (.inr 155)), (1, .inl x1)]) (i := 2) rfl (by decide) rfl dX13_readSort_92 ?_
  refine J_aload_n (pc := 93) X (j := 1) (i := 0) rfl rfl dX13_readSort_93 ?_
  refine J_getF (pc := 94) X (b := 158) ly155 fl_13_37 rfl dX13_readSort_94 ?_
  refine J_iload_n (pc := 97) X (j := 0) (i := 2) rfl rfl dX13_readSort_97 ?_
  obtain ⟨g18, hq⟩ := gd hq
  refine J_iaload (pc := 98) X ly158 g18 dX13_readSort_98 ?_
  refine J_iconst (pc := 99) X (v := 1) (by decide) dX13_readSort_99 ?_
  refine J_icmp_ne (pc := 100) (tgt := 109) X dX13_readSort_100 rfl (fun c19 => ?_) (fun c19 => ?_)
  · have hq := ite_f hq c19
    refine J_aload_n (pc := 109) X (j := 1) (i := 0) rfl rfl dX13_readSort_109 ?_
    refine J_getF (pc := 110) X (b := 158) ly155 fl_13_37 rfl dX13_readSort_110 ?_
    refine J_iload_n (pc := 113) X (j := 0) (i := 2) rfl rfl dX13_readSort_113 ?_
    refine J_iconst (pc := 114) X (v := 1) (by decide) dX13_readSort_114 ?_
    obtain ⟨g20, hq⟩ := gd hq
    refine J_iastore (pc := 115) X ly158 g20 dX13_readSort_115 ?_
    refine J_ltH hq (fun h21 hq => ?_)
    refine J_aload_n (pc := 116) X (j := 1) (i := 0) rfl rfl dX13_readSort_116 ?_
    obtain ⟨h22, hc, hq⟩ := bnv_e hq
    refine J_callV (pc := 117) (as := []) (st := []) (st2 := []) (r1 := (none, h22)) (h2 := h22) (ky := 2) X dX13_readSort_117 ca_X13_next ci_X13_next cs_X13_next ml_13_201 (by decide) ly155 rfl rfl (m_X13_next _ _ hc) rfl rfl (Nat.le_of_ble_eq_true rfl) rfl rfl ?_
    refine J_goto (pc := 120) X (tgt := 54) dX13_readSort_120 rfl ?_
    refine J_sub [1, 2] rfl ?_
    exact hself _ _ hq
  · have hq := ite_t hq c19
    refine J_sub [1] rfl ?_
    exact hk103 _ _ hq
theorem tB_X13_readSort_74 {κ : Kx} (X : OK κ cX13_readSort 3 (some .boolean) "StruckWordsModel" 4) (x1 : Int32) (k103 : Hp → Option (Int32 × Hp)) (k123 : Hp → Option (Int32 × Hp)) (self : Hp → Option (Int32 × Hp)) (h : Hp) (q : (Int32 × Hp)) (hk103 : ∀ (h : Hp) (q : (Int32 × Hp)), k103 h = some q → J κ 103 [(0, .inr (.inr 155))] [] h (some (.inl q.1), q.2)) (hk123 : ∀ (h : Hp) (q : (Int32 × Hp)), k123 h = some q → J κ 123 [(0, .inr (.inr 155))] [] h (some (.inl q.1), q.2)) (hself : ∀ (h : Hp) (q : (Int32 × Hp)), self h = some q → J κ 54 [(0, .inr (.inr 155)), (1, .inl x1)] [] h (some (.inl q.1), q.2)) (hq : B_X13_readSort_74 x1 k103 k123 self h = some q) : J κ 74 [(0, .inr (.inr 155)), (1, .inl x1)] [] h (some (.inl q.1), q.2) := by
  delta B_X13_readSort_74 at hq
  refine J_aload_n (pc := 74) X (j := 0) (i := 0) rfl rfl dX13_readSort_74 ?_
  refine J_ldc2 (pc := 75) X cl_13_129 dX13_readSort_75 ?_
  obtain ⟨v15, h14, hc, hq⟩ := bnd_e hq
  refine J_callV (pc := 78) (as := [.inr (.inl 108187666181747)]) (st := []) (st2 := [.inl v15]) (r1 := (some (.inl v15), h14)) (h2 := h14) (ky := 1) X dX13_readSort_78 ca_X13_isWord ci_X13_isWord cs_X13_isWord ml_13_219 (by decide) ly155 rfl rfl (m_X13_isWord _ _ _ hc) rfl rfl (Nat.le_of_ble_eq_true rfl) rfl rfl ?_
  refine J_if_eq (pc := 81) (tgt := 88) X dX13_readSort_81 rfl (fun c16 => ?_) (fun c16 => ?_)
  · have hq := ite_t hq c16
    refine J_bipush (pc := 88) X (v := 10) (by decide) dX13_readSort_88 ?_
    exact tB_X13_readSort_90 X _ _ _ _ _ _ _ hk103 hk123 hself hq
  · have hq := ite_f hq c16
    refine J_iconst (pc := 84) X (v := 5) (by decide) dX13_readSort_84 ?_
    refine J_goto (pc := 85) X (tgt := 90) dX13_readSort_85 rfl ?_
    exact tB_X13_readSort_90 X _ _ _ _ _ _ _ hk103 hk123 hself hq
theorem tF_X13_readSort_54 {κ : Kx} (X : OK κ cX13_readSort 3 (some .boolean) "StruckWordsModel" 4) (x1 : Int32) (k103 : Hp → Option (Int32 × Hp)) (k123 : Hp → Option (Int32 × Hp)) (self : Hp → Option (Int32 × Hp)) (h : Hp) (q : (Int32 × Hp)) (hk103 : ∀ (h : Hp) (q : (Int32 × Hp)), k103 h = some q → J κ 103 [(0, .inr (.inr 155))] [] h (some (.inl q.1), q.2)) (hk123 : ∀ (h : Hp) (q : (Int32 × Hp)), k123 h = some q → J κ 123 [(0, .inr (.inr 155))] [] h (some (.inl q.1), q.2)) (hself : ∀ (h : Hp) (q : (Int32 × Hp)), self h = some q → J κ 54 [(0, .inr (.inr 155)), (1, .inl x1)] [] h (some (.inl q.1), q.2)) (hq : F_X13_readSort_54 x1 k103 k123 self h = some q) : J κ 54 [(0, .inr (.inr 155)), (1, .inl x1)] [] h (some (.inl q.1), q.2) := by
  delta F_X13_readSort_54 at hq
  refine J_aload_n (pc := 54) X (j := 0) (i := 0) rfl rfl dX13_readSort_54 ?_
  refine J_ldc2 (pc := 55) X cl_13_129 dX13_readSort_55 ?_
  obtain ⟨v12, h11, hc, hq⟩ := bnd_e hq
  refine J_callV (pc := 58) (as := [.inr (.inl 108187666181747)]) (st := []) (st2 := [.inl v12]) (r1 := (some (.inl v12), h11)) (h2 := h11) (ky := 1) X dX13_readSort_58 ca_X13_isWord ci_X13_isWord cs_X13_isWord ml_13_219 (by decide) ly155 rfl rfl (m_X13_isWord _ _ _ hc) rfl rfl (Nat.le_of_ble_eq_true rfl) rfl rfl ?_
  refine J_if_ne (pc := 61) (tgt := 74) X dX13_readSort_61 rfl (fun c13 => ?_) (fun c13 => ?_)
  · have hq := ite_f hq c13
    exact tB_X13_readSort_74 X _ _ _ _ _ _ hk103 hk123 hself hq
  · have hq := ite_t hq c13
    refine J_aload_n (pc := 64) X (j := 0) (i := 0) rfl rfl dX13_readSort_64 ?_
    refine J_ldc2 (pc := 65) X cl_13_131 dX13_readSort_65 ?_
    obtain ⟨v24, h23, hc, hq⟩ := bnd_e hq
    refine J_callV (pc := 68) (as := [.inr (.inl 1701733491)]) (st := []) (st2 := [.inl v24]) (r1 := (some (.inl v24), h23)) (h2 := h23) (ky := 1) X dX13_readSort_68 ca_X13_isWord ci_X13_isWord cs_X13_isWord ml_13_219 (by decide) ly155 rfl rfl (m_X13_isWord _ _ _ hc) rfl rfl (Nat.le_of_ble_eq_true rfl) rfl rfl ?_
    refine J_if_eq (pc := 71) (tgt := 123) X dX13_readSort_71 rfl (fun c25 => ?_) (fun c25 => ?_)
    · have hq := ite_t hq c25
      refine J_sub [0] rfl ?_
      exact hk123 _ _ hq
    · have hq := ite_f hq c25
      exact tB_X13_readSort_74 X _ _ _ _ _ _ hk103 hk123 hself hq
theorem tL_X13_readSort_54 {κ : Kx} (X : OK κ cX13_readSort 3 (some .boolean) "StruckWordsModel" 4) (x1 : Int32) (k103 : Hp → Option (Int32 × Hp)) (k123 : Hp → Option (Int32 × Hp)) (N : Nat) (h : Hp) (q : (Int32 × Hp)) (hk103 : ∀ (h : Hp) (q : (Int32 × Hp)), k103 h = some q → J κ 103 [(0, .inr (.inr 155))] [] h (some (.inl q.1), q.2)) (hk123 : ∀ (h : Hp) (q : (Int32 × Hp)), k123 h = some q → J κ 123 [(0, .inr (.inr 155))] [] h (some (.inl q.1), q.2)) (hq : itr1 (F_X13_readSort_54 x1 k103 k123) N h = some q) : J κ 54 [(0, .inr (.inr 155)), (1, .inl x1)] [] h (some (.inl q.1), q.2) :=
  itr1_ind (fun self hs  h q hq => tF_X13_readSort_54 X x1 k103 k123 self h q hk103 hk123 hs hq) N  h q hq
theorem tf_X13_readSort {κ : Kx} (X : OK κ cX13_readSort 3 (some .boolean) "StruckWordsModel" 4) (h : Hp) (q : (Int32 × Hp)) (hq : f_X13_readSort h = some q) : J κ 0 [(0, .inr (.inr 155))] [] h (some (.inl q.1), q.2) := by
  delta f_X13_readSort at hq
  refine J_aload_n (pc := 0) X (j := 0) (i := 0) rfl rfl dX13_readSort_0 ?_
  refine J_getF (pc := 1) X (b := 158) ly155 fl_13_37 rfl dX13_readSort_1 ?_
  refine J_iconst (pc := 4) X (v := 0) (by decide) dX13_readSort_4 ?_
  refine J_iaload (pc := 5) X ly158 (by decide) dX13_readSort_5 ?_
  refine J_ltI hq (fun v1 hq => ?_)
  refine J_istore_n (pc := 6) X (L' := [(1, .inl v1), (0, .inr (.inr 155))]) (i := 1) rfl (by decide) rfl dX13_readSort_6 ?_
  refine J_iload_n (pc := 7) X (j := 0) (i := 1) rfl rfl dX13_readSort_7 ?_
  refine J_iconst (pc := 8) X (v := 5) (by decide) dX13_readSort_8 ?_
  refine J_icmp_ne (pc := 9) (tgt := 18) X dX13_readSort_9 rfl (fun c2 => ?_) (fun c2 => ?_)
  · have hq := ite_f hq c2
    refine J_aload_n (pc := 18) X (j := 1) (i := 0) rfl rfl dX13_readSort_18 ?_
    obtain ⟨h3, hc, hq⟩ := bnv_e hq
    refine J_callV (pc := 19) (as := []) (st := []) (st2 := []) (r1 := (none, h3)) (h2 := h3) (ky := 2) X dX13_readSort_19 ca_X13_next ci_X13_next cs_X13_next ml_13_201 (by decide) ly155 rfl rfl (m_X13_next _ _ hc) rfl rfl (Nat.le_of_ble_eq_true rfl) rfl rfl ?_
    refine J_aload_n (pc := 22) X (j := 1) (i := 0) rfl rfl dX13_readSort_22 ?_
    refine J_bipush (pc := 23) X (v := 16) (by decide) dX13_readSort_23 ?_
    refine J_iload_n (pc := 25) X (j := 0) (i := 1) rfl rfl dX13_readSort_25 ?_
    refine J_iadd (pc := 26) X dX13_readSort_26 ?_
    obtain ⟨v5, h4, hc, hq⟩ := bnd_e hq
    refine J_callV (pc := 27) (as := [.inl (16 + v1)]) (st := []) (st2 := [.inl v5]) (r1 := (some (.inl v5), h4)) (h2 := h4) (ky := 3) X dX13_readSort_27 ca_X13_fresh ci_X13_fresh cs_X13_fresh ml_13_226 (by decide) ly155 rfl rfl (m_X13_fresh _ _ _ hc) rfl rfl (Nat.le_of_ble_eq_true rfl) rfl rfl ?_
    refine J_if_ne (pc := 30) (tgt := 35) X dX13_readSort_30 rfl (fun c6 => ?_) (fun c6 => ?_)
    · have hq := ite_f hq c6
      refine J_aload_n (pc := 35) X (j := 1) (i := 0) rfl rfl dX13_readSort_35 ?_
      refine J_getF (pc := 36) X (b := 158) ly155 fl_13_37 rfl dX13_readSort_36 ?_
      refine J_iconst (pc := 39) X (v := 5) (by decide) dX13_readSort_39 ?_
      refine J_iload_n (pc := 40) X (j := 0) (i := 1) rfl rfl dX13_readSort_40 ?_
      refine J_iadd (pc := 41) X dX13_readSort_41 ?_
      refine J_iconst (pc := 42) X (v := 0) (by decide) dX13_readSort_42 ?_
      obtain ⟨g7, hq⟩ := gd hq
      refine J_iastore (pc := 43) X ly158 g7 dX13_readSort_43 ?_
      refine J_ltH hq (fun h8 hq => ?_)
      refine J_aload_n (pc := 44) X (j := 1) (i := 0) rfl rfl dX13_readSort_44 ?_
      refine J_getF (pc := 45) X (b := 158) ly155 fl_13_37 rfl dX13_readSort_45 ?_
      refine J_bipush (pc := 48) X (v := 10) (by decide) dX13_readSort_48 ?_
      refine J_iload_n (pc := 50) X (j := 0) (i := 1) rfl rfl dX13_readSort_50 ?_
      refine J_iadd (pc := 51) X dX13_readSort_51 ?_
      refine J_iconst (pc := 52) X (v := 0) (by decide) dX13_readSort_52 ?_
      obtain ⟨g9, hq⟩ := gd hq
      refine J_iastore (pc := 53) X ly158 g9 dX13_readSort_53 ?_
      refine J_ltH hq (fun h10 hq => ?_)
      refine J_sub [1, 0] rfl ?_
      refine tL_X13_readSort_54 X _ _ _ N0 _ _ ?_ ?_ hq
      · intro h26 q hq
        refine J_aload_n (pc := 103) X (j := 0) (i := 0) rfl rfl dX13_readSort_103 ?_
        refine J_iconst (pc := 104) X (v := 3) (by decide) dX13_readSort_104 ?_
        obtain ⟨v28, h27, hc, hq⟩ := bnd_e hq
        refine J_callV (pc := 105) (as := [.inl 3]) (st := []) (st2 := [.inl v28]) (r1 := (some (.inl v28), h27)) (h2 := h27) (ky := 1) X dX13_readSort_105 ca_X13_bad ci_X13_bad cs_X13_bad ml_13_198 (by decide) ly155 rfl rfl (m_X13_bad _ _ _ hc) rfl rfl (Nat.le_of_ble_eq_true rfl) rfl rfl ?_
        obtain ⟨g29, hq⟩ := gd hq
        obtain rfl := Option.some.inj hq
        exact J_zret (pc := 108) X g29 dX13_readSort_108
      · intro h30 q hq
        refine J_aload_n (pc := 123) X (j := 0) (i := 0) rfl rfl dX13_readSort_123 ?_
        refine J_getF (pc := 124) X (b := 158) ly155 fl_13_37 rfl dX13_readSort_124 ?_
        refine J_iconst (pc := 127) X (v := 0) (by decide) dX13_readSort_127 ?_
        refine J_dup2 (pc := 128) X rfl rfl dX13_readSort_128 ?_
        refine J_iaload (pc := 129) X ly158 (by decide) dX13_readSort_129 ?_
        refine J_iconst (pc := 130) X (v := 1) (by decide) dX13_readSort_130 ?_
        refine J_iadd (pc := 131) X dX13_readSort_131 ?_
        refine J_iastore (pc := 132) X ly158 (by decide) dX13_readSort_132 ?_
        refine J_ltH hq (fun h31 hq => ?_)
        refine J_iconst (pc := 133) X (v := 1) (by decide) dX13_readSort_133 ?_
        obtain rfl := Option.some.inj hq
        exact J_zret (pc := 134) X (by decide) dX13_readSort_134
    · have hq := ite_t hq c6
      refine J_iconst (pc := 33) X (v := 0) (by decide) dX13_readSort_33 ?_
      obtain rfl := Option.some.inj hq
      exact J_zret (pc := 34) X (by decide) dX13_readSort_34
  · have hq := ite_t hq c2
    refine J_aload_n (pc := 12) X (j := 1) (i := 0) rfl rfl dX13_readSort_12 ?_
    refine J_iconst (pc := 13) X (v := 4) (by decide) dX13_readSort_13 ?_
    obtain ⟨v33, h32, hc, hq⟩ := bnd_e hq
    refine J_callV (pc := 14) (as := [.inl 4]) (st := []) (st2 := [.inl v33]) (r1 := (some (.inl v33), h32)) (h2 := h32) (ky := 1) X dX13_readSort_14 ca_X13_bad ci_X13_bad cs_X13_bad ml_13_198 (by decide) ly155 rfl rfl (m_X13_bad _ _ _ hc) rfl rfl (Nat.le_of_ble_eq_true rfl) rfl rfl ?_
    obtain ⟨g34, hq⟩ := gd hq
    obtain rfl := Option.some.inj hq
    exact J_zret (pc := 17) X g34 dX13_readSort_17
theorem m_X13_readSort (h : Hp) (q : (Int32 × Hp)) (hq : f_X13_readSort  h = some q) : ∀ l w, CT l w yX13_readSort cX13_readSort 3 (some .boolean) 4 [.inr (.inr 155)] h (some (.inl q.1), q.2) :=
  CT_of (L0 := [(0, .inr (.inr 155))]) (by decide) rfl (Nat.le_of_ble_eq_true rfl) (fun κ X => tf_X13_readSort X  h q  hq)
theorem tB_X13_readWord_217 {κ : Kx} (X : OK κ cX13_readWord 2 (some .boolean) "StruckWordsModel" 4) (h : Hp) (q : (Int32 × Hp)) (hq : B_X13_readWord_217 h = some q) : J κ 217 [(0, .inr (.inr 155))] [] h (some (.inl q.1), q.2) := by
  delta B_X13_readWord_217 at hq
  refine J_aload_n (pc := 217) X (j := 0) (i := 0) rfl rfl dX13_readWord_217 ?_
  refine J_getF (pc := 218) X (b := 158) ly155 fl_13_37 rfl dX13_readWord_218 ?_
  refine J_iconst (pc := 221) X (v := 2) (by decide) dX13_readWord_221 ?_
  refine J_dup2 (pc := 222) X rfl rfl dX13_readWord_222 ?_
  refine J_iaload (pc := 223) X ly158 (by decide) dX13_readWord_223 ?_
  refine J_iconst (pc := 224) X (v := 1) (by decide) dX13_readWord_224 ?_
  refine J_iadd (pc := 225) X dX13_readWord_225 ?_
  refine J_iastore (pc := 226) X ly158 (by decide) dX13_readWord_226 ?_
  refine J_ltH hq (fun h27 hq => ?_)
  refine J_iconst (pc := 227) X (v := 1) (by decide) dX13_readWord_227 ?_
  obtain rfl := Option.some.inj hq
  exact J_zret (pc := 228) X (by decide) dX13_readWord_228
theorem tB_X13_readWord_193 {κ : Kx} (X : OK κ cX13_readWord 2 (some .boolean) "StruckWordsModel" 4) (x1 : Int32) (h : Hp) (q : (Int32 × Hp)) (hq : B_X13_readWord_193 x1 h = some q) : J κ 193 [(0, .inr (.inr 155)), (1, .inl x1)] [] h (some (.inl q.1), q.2) := by
  delta B_X13_readWord_193 at hq
  refine J_aload_n (pc := 193) X (j := 0) (i := 0) rfl rfl dX13_readWord_193 ?_
  refine J_ldc2 (pc := 194) X cl_13_145 dX13_readWord_194 ?_
  obtain ⟨v25, h24, hc, hq⟩ := bnd_e hq
  refine J_callV (pc := 197) (as := [.inr (.inl 1768189029)]) (st := []) (st2 := [.inl v25]) (r1 := (some (.inl v25), h24)) (h2 := h24) (ky := 1) X dX13_readWord_197 ca_X13_isWord ci_X13_isWord cs_X13_isWord ml_13_219 (by decide) ly155 rfl rfl (m_X13_isWord _ _ _ hc) rfl rfl (Nat.le_of_ble_eq_true rfl) rfl rfl ?_
  refine J_if_eq (pc := 200) (tgt := 217) X dX13_readWord_200 rfl (fun c26 => ?_) (fun c26 => ?_)
  · have hq := ite_t hq c26
    refine J_sub [0] rfl ?_
    exact tB_X13_readWord_217 X _ _ hq
  · have hq := ite_f hq c26
    refine J_aload_n (pc := 203) X (j := 0) (i := 0) rfl rfl dX13_readWord_203 ?_
    obtain ⟨h28, hc, hq⟩ := bnv_e hq
    refine J_callV (pc := 204) (as := []) (st := []) (st2 := []) (r1 := (none, h28)) (h2 := h28) (ky := 2) X dX13_readWord_204 ca_X13_next ci_X13_next cs_X13_next ml_13_201 (by decide) ly155 rfl rfl (m_X13_next _ _ hc) rfl rfl (Nat.le_of_ble_eq_true rfl) rfl rfl ?_
    refine J_aload_n (pc := 207) X (j := 0) (i := 0) rfl rfl dX13_readWord_207 ?_
    refine J_getF (pc := 208) X (b := 158) ly155 fl_13_37 rfl dX13_readWord_208 ?_
    refine J_bipush (pc := 211) X (v := 64) (by decide) dX13_readWord_211 ?_
    refine J_iload_n (pc := 213) X (j := 1) (i := 1) rfl rfl dX13_readWord_213 ?_
    refine J_iadd (pc := 214) X dX13_readWord_214 ?_
    refine J_iconst (pc := 215) X (v := 1) (by decide) dX13_readWord_215 ?_
    obtain ⟨g29, hq⟩ := gd hq
    refine J_iastore (pc := 216) X ly158 g29 dX13_readWord_216 ?_
    refine J_ltH hq (fun h30 hq => ?_)
    refine J_sub [0] rfl ?_
    exact tB_X13_readWord_217 X _ _ hq
theorem tB_X13_readWord_154 {κ : Kx} (X : OK κ cX13_readWord 2 (some .boolean) "StruckWordsModel" 4) (x1 : Int32) (h : Hp) (q : (Int32 × Hp)) (hq : B_X13_readWord_154 x1 h = some q) : J κ 154 [(0, .inr (.inr 155)), (1, .inl x1)] [] h (some (.inl q.1), q.2) := by
  delta B_X13_readWord_154 at hq
  refine J_aload_n (pc := 154) X (j := 0) (i := 0) rfl rfl dX13_readWord_154 ?_
  refine J_ldc2 (pc := 155) X cl_13_143 dX13_readWord_155 ?_
  obtain ⟨v22, h21, hc, hq⟩ := bnd_e hq
  refine J_callV (pc := 158) (as := [.inr (.inl 427071599731)]) (st := []) (st2 := [.inl v22]) (r1 := (some (.inl v22), h21)) (h2 := h21) (ky := 1) X dX13_readWord_158 ca_X13_isWord ci_X13_isWord cs_X13_isWord ml_13_219 (by decide) ly155 rfl rfl (m_X13_isWord _ _ _ hc) rfl rfl (Nat.le_of_ble_eq_true rfl) rfl rfl ?_
  refine J_if_eq (pc := 161) (tgt := 193) X dX13_readWord_161 rfl (fun c23 => ?_) (fun c23 => ?_)
  · have hq := ite_t hq c23
    exact tB_X13_readWord_193 X _ _ _ hq
  · have hq := ite_f hq c23
    refine J_aload_n (pc := 164) X (j := 0) (i := 0) rfl rfl dX13_readWord_164 ?_
    obtain ⟨h31, hc, hq⟩ := bnv_e hq
    refine J_callV (pc := 165) (as := []) (st := []) (st2 := []) (r1 := (none, h31)) (h2 := h31) (ky := 2) X dX13_readWord_165 ca_X13_next ci_X13_next cs_X13_next ml_13_201 (by decide) ly155 rfl rfl (m_X13_next _ _ hc) rfl rfl (Nat.le_of_ble_eq_true rfl) rfl rfl ?_
    refine J_aload_n (pc := 168) X (j := 0) (i := 0) rfl rfl dX13_readWord_168 ?_
    refine J_iconst (pc := 169) X (v := 0) (by decide) dX13_readWord_169 ?_
    refine J_bipush (pc := 170) X (v := 99) (by decide) dX13_readWord_170 ?_
    obtain ⟨v33, h32, hc, hq⟩ := bnd_e hq
    refine J_callV (pc := 172) (as := [.inl 0, .inl 99]) (st := []) (st2 := [.inl v33]) (r1 := (some (.inl v33), h32)) (h2 := h32) (ky := 3) X dX13_readWord_172 ca_X13_takes ci_X13_takes cs_X13_takes ml_13_248 (by decide) ly155 rfl rfl (m_X13_takes _ _ _ _ hc) rfl rfl (Nat.le_of_ble_eq_true rfl) rfl rfl ?_
    refine J_if_ne (pc := 175) (tgt := 180) X dX13_readWord_175 rfl (fun c34 => ?_) (fun c34 => ?_)
    · have hq := ite_f hq c34
      refine J_aload_n (pc := 180) X (j := 0) (i := 0) rfl rfl dX13_readWord_180 ?_
      refine J_getF (pc := 181) X (b := 158) ly155 fl_13_37 rfl dX13_readWord_181 ?_
      refine J_bipush (pc := 184) X (v := 56) (by decide) dX13_readWord_184 ?_
      refine J_iload_n (pc := 186) X (j := 1) (i := 1) rfl rfl dX13_readWord_186 ?_
      refine J_iadd (pc := 187) X dX13_readWord_187 ?_
      refine J_aload_n (pc := 188) X (j := 0) (i := 0) rfl rfl dX13_readWord_188 ?_
      refine J_getI (pc := 189) X ly155 fl_13_208 dX13_readWord_189 ?_
      obtain ⟨g35, hq⟩ := gd hq
      refine J_iastore (pc := 192) X ly158 g35 dX13_readWord_192 ?_
      refine J_ltH hq (fun h36 hq => ?_)
      exact tB_X13_readWord_193 X _ _ _ hq
    · have hq := ite_t hq c34
      refine J_iconst (pc := 178) X (v := 0) (by decide) dX13_readWord_178 ?_
      obtain rfl := Option.some.inj hq
      exact J_zret (pc := 179) X (by decide) dX13_readWord_179
theorem tB_X13_readWord_115 {κ : Kx} (X : OK κ cX13_readWord 2 (some .boolean) "StruckWordsModel" 4) (x1 : Int32) (h : Hp) (q : (Int32 × Hp)) (hq : B_X13_readWord_115 x1 h = some q) : J κ 115 [(0, .inr (.inr 155)), (1, .inl x1)] [] h (some (.inl q.1), q.2) := by
  delta B_X13_readWord_115 at hq
  refine J_aload_n (pc := 115) X (j := 0) (i := 0) rfl rfl dX13_readWord_115 ?_
  refine J_ldc2 (pc := 116) X cl_13_141 dX13_readWord_116 ?_
  obtain ⟨v19, h18, hc, hq⟩ := bnd_e hq
  refine J_callV (pc := 119) (as := [.inr (.inl 131277443786867)]) (st := []) (st2 := [.inl v19]) (r1 := (some (.inl v19), h18)) (h2 := h18) (ky := 1) X dX13_readWord_119 ca_X13_isWord ci_X13_isWord cs_X13_isWord ml_13_219 (by decide) ly155 rfl rfl (m_X13_isWord _ _ _ hc) rfl rfl (Nat.le_of_ble_eq_true rfl) rfl rfl ?_
  refine J_if_eq (pc := 122) (tgt := 154) X dX13_readWord_122 rfl (fun c20 => ?_) (fun c20 => ?_)
  · have hq := ite_t hq c20
    exact tB_X13_readWord_154 X _ _ _ hq
  · have hq := ite_f hq c20
    refine J_aload_n (pc := 125) X (j := 0) (i := 0) rfl rfl dX13_readWord_125 ?_
    obtain ⟨h37, hc, hq⟩ := bnv_e hq
    refine J_callV (pc := 126) (as := []) (st := []) (st2 := []) (r1 := (none, h37)) (h2 := h37) (ky := 2) X dX13_readWord_126 ca_X13_next ci_X13_next cs_X13_next ml_13_201 (by decide) ly155 rfl rfl (m_X13_next _ _ hc) rfl rfl (Nat.le_of_ble_eq_true rfl) rfl rfl ?_
    refine J_aload_n (pc := 129) X (j := 0) (i := 0) rfl rfl dX13_readWord_129 ?_
    refine J_iconst (pc := 130) X (v := 1) (by decide) dX13_readWord_130 ?_
    refine J_bipush (pc := 131) X (v := 60) (by decide) dX13_readWord_131 ?_
    obtain ⟨v39, h38, hc, hq⟩ := bnd_e hq
    refine J_callV (pc := 133) (as := [.inl 1, .inl 60]) (st := []) (st2 := [.inl v39]) (r1 := (some (.inl v39), h38)) (h2 := h38) (ky := 3) X dX13_readWord_133 ca_X13_takes ci_X13_takes cs_X13_takes ml_13_248 (by decide) ly155 rfl rfl (m_X13_takes _ _ _ _ hc) rfl rfl (Nat.le_of_ble_eq_true rfl) rfl rfl ?_
    refine J_if_ne (pc := 136) (tgt := 141) X dX13_readWord_136 rfl (fun c40 => ?_) (fun c40 => ?_)
    · have hq := ite_f hq c40
      refine J_aload_n (pc := 141) X (j := 0) (i := 0) rfl rfl dX13_readWord_141 ?_
      refine J_getF (pc := 142) X (b := 158) ly155 fl_13_37 rfl dX13_readWord_142 ?_
      refine J_bipush (pc := 145) X (v := 48) (by decide) dX13_readWord_145 ?_
      refine J_iload_n (pc := 147) X (j := 1) (i := 1) rfl rfl dX13_readWord_147 ?_
      refine J_iadd (pc := 148) X dX13_readWord_148 ?_
      refine J_aload_n (pc := 149) X (j := 0) (i := 0) rfl rfl dX13_readWord_149 ?_
      refine J_getI (pc := 150) X ly155 fl_13_208 dX13_readWord_150 ?_
      obtain ⟨g41, hq⟩ := gd hq
      refine J_iastore (pc := 153) X ly158 g41 dX13_readWord_153 ?_
      refine J_ltH hq (fun h42 hq => ?_)
      exact tB_X13_readWord_154 X _ _ _ hq
    · have hq := ite_t hq c40
      refine J_iconst (pc := 139) X (v := 0) (by decide) dX13_readWord_139 ?_
      obtain rfl := Option.some.inj hq
      exact J_zret (pc := 140) X (by decide) dX13_readWord_140
theorem tf_X13_readWord {κ : Kx} (X : OK κ cX13_readWord 2 (some .boolean) "StruckWordsModel" 4) (h : Hp) (q : (Int32 × Hp)) (hq : f_X13_readWord h = some q) : J κ 0 [(0, .inr (.inr 155))] [] h (some (.inl q.1), q.2) := by
  delta f_X13_readWord at hq
  refine J_aload_n (pc := 0) X (j := 0) (i := 0) rfl rfl dX13_readWord_0 ?_
  refine J_getF (pc := 1) X (b := 158) ly155 fl_13_37 rfl dX13_readWord_1 ?_
  refine J_iconst (pc := 4) X (v := 2) (by decide) dX13_readWord_4 ?_
  refine J_iaload (pc := 5) X ly158 (by decide) dX13_readWord_5 ?_
  refine J_ltI hq (fun v1 hq => ?_)
  refine J_istore_n (pc := 6) X (L' := [(1, .inl v1), (0, .inr (.inr 155))]) (i := 1) rfl (by decide) rfl dX13_readWord_6 ?_
  refine J_iload_n (pc := 7) X (j := 0) (i := 1) rfl rfl dX13_readWord_7 ?_
  refine J_bipush (pc := 8) X (v := 8) (by decide) dX13_readWord_8 ?_
  refine J_icmp_ne (pc := 10) (tgt := 19) X dX13_readWord_10 rfl (fun c2 => ?_) (fun c2 => ?_)
  · have hq := ite_f hq c2
    refine J_aload_n (pc := 19) X (j := 1) (i := 0) rfl rfl dX13_readWord_19 ?_
    obtain ⟨h3, hc, hq⟩ := bnv_e hq
    refine J_callV (pc := 20) (as := []) (st := []) (st2 := []) (r1 := (none, h3)) (h2 := h3) (ky := 2) X dX13_readWord_20 ca_X13_next ci_X13_next cs_X13_next ml_13_201 (by decide) ly155 rfl rfl (m_X13_next _ _ hc) rfl rfl (Nat.le_of_ble_eq_true rfl) rfl rfl ?_
    refine J_aload_n (pc := 23) X (j := 1) (i := 0) rfl rfl dX13_readWord_23 ?_
    refine J_bipush (pc := 24) X (v := 24) (by decide) dX13_readWord_24 ?_
    refine J_iload_n (pc := 26) X (j := 0) (i := 1) rfl rfl dX13_readWord_26 ?_
    refine J_iadd (pc := 27) X dX13_readWord_27 ?_
    obtain ⟨v5, h4, hc, hq⟩ := bnd_e hq
    refine J_callV (pc := 28) (as := [.inl (24 + v1)]) (st := []) (st2 := [.inl v5]) (r1 := (some (.inl v5), h4)) (h2 := h4) (ky := 3) X dX13_readWord_28 ca_X13_fresh ci_X13_fresh cs_X13_fresh ml_13_226 (by decide) ly155 rfl rfl (m_X13_fresh _ _ _ hc) rfl rfl (Nat.le_of_ble_eq_true rfl) rfl rfl ?_
    refine J_if_ne (pc := 31) (tgt := 36) X dX13_readWord_31 rfl (fun c6 => ?_) (fun c6 => ?_)
    · have hq := ite_f hq c6
      refine J_aload_n (pc := 36) X (j := 1) (i := 0) rfl rfl dX13_readWord_36 ?_
      refine J_getF (pc := 37) X (b := 158) ly155 fl_13_37 rfl dX13_readWord_37 ?_
      refine J_bipush (pc := 40) X (v := 40) (by decide) dX13_readWord_40 ?_
      refine J_iload_n (pc := 42) X (j := 0) (i := 1) rfl rfl dX13_readWord_42 ?_
      refine J_iadd (pc := 43) X dX13_readWord_43 ?_
      refine J_iconst (pc := 44) X (v := 1) (by decide) dX13_readWord_44 ?_
      obtain ⟨g7, hq⟩ := gd hq
      refine J_iastore (pc := 45) X ly158 g7 dX13_readWord_45 ?_
      refine J_ltH hq (fun h8 hq => ?_)
      refine J_aload_n (pc := 46) X (j := 1) (i := 0) rfl rfl dX13_readWord_46 ?_
      refine J_getF (pc := 47) X (b := 158) ly155 fl_13_37 rfl dX13_readWord_47 ?_
      refine J_bipush (pc := 50) X (v := 48) (by decide) dX13_readWord_50 ?_
      refine J_iload_n (pc := 52) X (j := 0) (i := 1) rfl rfl dX13_readWord_52 ?_
      refine J_iadd (pc := 53) X dX13_readWord_53 ?_
      refine J_iconst (pc := 54) X (v := 1) (by decide) dX13_readWord_54 ?_
      obtain ⟨g9, hq⟩ := gd hq
      refine J_iastore (pc := 55) X ly158 g9 dX13_readWord_55 ?_
      refine J_ltH hq (fun h10 hq => ?_)
      refine J_aload_n (pc := 56) X (j := 1) (i := 0) rfl rfl dX13_readWord_56 ?_
      refine J_getF (pc := 57) X (b := 158) ly155 fl_13_37 rfl dX13_readWord_57 ?_
      refine J_bipush (pc := 60) X (v := 56) (by decide) dX13_readWord_60 ?_
      refine J_iload_n (pc := 62) X (j := 0) (i := 1) rfl rfl dX13_readWord_62 ?_
      refine J_iadd (pc := 63) X dX13_readWord_63 ?_
      refine J_iconst (pc := 64) X (v := 1) (by decide) dX13_readWord_64 ?_
      obtain ⟨g11, hq⟩ := gd hq
      refine J_iastore (pc := 65) X ly158 g11 dX13_readWord_65 ?_
      refine J_ltH hq (fun h12 hq => ?_)
      refine J_aload_n (pc := 66) X (j := 1) (i := 0) rfl rfl dX13_readWord_66 ?_
      refine J_getF (pc := 67) X (b := 158) ly155 fl_13_37 rfl dX13_readWord_67 ?_
      refine J_bipush (pc := 70) X (v := 64) (by decide) dX13_readWord_70 ?_
      refine J_iload_n (pc := 72) X (j := 0) (i := 1) rfl rfl dX13_readWord_72 ?_
      refine J_iadd (pc := 73) X dX13_readWord_73 ?_
      refine J_iconst (pc := 74) X (v := 0) (by decide) dX13_readWord_74 ?_
      obtain ⟨g13, hq⟩ := gd hq
      refine J_iastore (pc := 75) X ly158 g13 dX13_readWord_75 ?_
      refine J_ltH hq (fun h14 hq => ?_)
      refine J_aload_n (pc := 76) X (j := 1) (i := 0) rfl rfl dX13_readWord_76 ?_
      refine J_ldc2 (pc := 77) X cl_13_139 dX13_readWord_77 ?_
      obtain ⟨v16, h15, hc, hq⟩ := bnd_e hq
      refine J_callV (pc := 80) (as := [.inr (.inl 422607680627)]) (st := []) (st2 := [.inl v16]) (r1 := (some (.inl v16), h15)) (h2 := h15) (ky := 1) X dX13_readWord_80 ca_X13_isWord ci_X13_isWord cs_X13_isWord ml_13_219 (by decide) ly155 rfl rfl (m_X13_isWord _ _ _ hc) rfl rfl (Nat.le_of_ble_eq_true rfl) rfl rfl ?_
      refine J_if_eq (pc := 83) (tgt := 115) X dX13_readWord_83 rfl (fun c17 => ?_) (fun c17 => ?_)
      · have hq := ite_t hq c17
        refine J_sub [1, 0] rfl ?_
        exact tB_X13_readWord_115 X _ _ _ hq
      · have hq := ite_f hq c17
        refine J_aload_n (pc := 86) X (j := 1) (i := 0) rfl rfl dX13_readWord_86 ?_
        obtain ⟨h43, hc, hq⟩ := bnv_e hq
        refine J_callV (pc := 87) (as := []) (st := []) (st2 := []) (r1 := (none, h43)) (h2 := h43) (ky := 2) X dX13_readWord_87 ca_X13_next ci_X13_next cs_X13_next ml_13_201 (by decide) ly155 rfl rfl (m_X13_next _ _ hc) rfl rfl (Nat.le_of_ble_eq_true rfl) rfl rfl ?_
        refine J_aload_n (pc := 90) X (j := 1) (i := 0) rfl rfl dX13_readWord_90 ?_
        refine J_iconst (pc := 91) X (v := 0) (by decide) dX13_readWord_91 ?_
        refine J_bipush (pc := 92) X (v := 9) (by decide) dX13_readWord_92 ?_
        obtain ⟨v45, h44, hc, hq⟩ := bnd_e hq
        refine J_callV (pc := 94) (as := [.inl 0, .inl 9]) (st := []) (st2 := [.inl v45]) (r1 := (some (.inl v45), h44)) (h2 := h44) (ky := 3) X dX13_readWord_94 ca_X13_takes ci_X13_takes cs_X13_takes ml_13_248 (by decide) ly155 rfl rfl (m_X13_takes _ _ _ _ hc) rfl rfl (Nat.le_of_ble_eq_true rfl) rfl rfl ?_
        refine J_if_ne (pc := 97) (tgt := 102) X dX13_readWord_97 rfl (fun c46 => ?_) (fun c46 => ?_)
        · have hq := ite_f hq c46
          refine J_aload_n (pc := 102) X (j := 1) (i := 0) rfl rfl dX13_readWord_102 ?_
          refine J_getF (pc := 103) X (b := 158) ly155 fl_13_37 rfl dX13_readWord_103 ?_
          refine J_bipush (pc := 106) X (v := 40) (by decide) dX13_readWord_106 ?_
          refine J_iload_n (pc := 108) X (j := 0) (i := 1) rfl rfl dX13_readWord_108 ?_
          refine J_iadd (pc := 109) X dX13_readWord_109 ?_
          refine J_aload_n (pc := 110) X (j := 1) (i := 0) rfl rfl dX13_readWord_110 ?_
          refine J_getI (pc := 111) X ly155 fl_13_208 dX13_readWord_111 ?_
          obtain ⟨g47, hq⟩ := gd hq
          refine J_iastore (pc := 114) X ly158 g47 dX13_readWord_114 ?_
          refine J_ltH hq (fun h48 hq => ?_)
          refine J_sub [1, 0] rfl ?_
          exact tB_X13_readWord_115 X _ _ _ hq
        · have hq := ite_t hq c46
          refine J_iconst (pc := 100) X (v := 0) (by decide) dX13_readWord_100 ?_
          obtain rfl := Option.some.inj hq
          exact J_zret (pc := 101) X (by decide) dX13_readWord_101
    · have hq := ite_t hq c6
      refine J_iconst (pc := 34) X (v := 0) (by decide) dX13_readWord_34 ?_
      obtain rfl := Option.some.inj hq
      exact J_zret (pc := 35) X (by decide) dX13_readWord_35
  · have hq := ite_t hq c2
    refine J_aload_n (pc := 13) X (j := 1) (i := 0) rfl rfl dX13_readWord_13 ?_
    refine J_iconst (pc := 14) X (v := 4) (by decide) dX13_readWord_14 ?_
    obtain ⟨v50, h49, hc, hq⟩ := bnd_e hq
    refine J_callV (pc := 15) (as := [.inl 4]) (st := []) (st2 := [.inl v50]) (r1 := (some (.inl v50), h49)) (h2 := h49) (ky := 1) X dX13_readWord_15 ca_X13_bad ci_X13_bad cs_X13_bad ml_13_198 (by decide) ly155 rfl rfl (m_X13_bad _ _ _ hc) rfl rfl (Nat.le_of_ble_eq_true rfl) rfl rfl ?_
    obtain ⟨g51, hq⟩ := gd hq
    obtain rfl := Option.some.inj hq
    exact J_zret (pc := 18) X g51 dX13_readWord_18
theorem m_X13_readWord (h : Hp) (q : (Int32 × Hp)) (hq : f_X13_readWord  h = some q) : ∀ l w, CT l w yX13_readWord cX13_readWord 2 (some .boolean) 4 [.inr (.inr 155)] h (some (.inl q.1), q.2) :=
  CT_of (L0 := [(0, .inr (.inr 155))]) (by decide) rfl (Nat.le_of_ble_eq_true rfl) (fun κ X => tf_X13_readWord X  h q  hq)
theorem tf_X13_line {κ : Kx} (X : OK κ cX13_line 1 (some .boolean) "StruckWordsModel" 5) (h : Hp) (q : (Int32 × Hp)) (hq : f_X13_line h = some q) : J κ 0 [(0, .inr (.inr 155))] [] h (some (.inl q.1), q.2) := by
  delta f_X13_line at hq
  refine J_aload_n (pc := 0) X (j := 0) (i := 0) rfl rfl dX13_line_0 ?_
  refine J_ldc2 (pc := 1) X cl_13_127 dX13_line_1 ?_
  obtain ⟨v2, h1, hc, hq⟩ := bnd_e hq
  refine J_callV (pc := 4) (as := [.inr (.inl 1936683636)]) (st := []) (st2 := [.inl v2]) (r1 := (some (.inl v2), h1)) (h2 := h1) (ky := 1) X dX13_line_4 ca_X13_isWord ci_X13_isWord cs_X13_isWord ml_13_219 (by decide) ly155 rfl rfl (m_X13_isWord _ _ _ hc) rfl rfl (Nat.le_of_ble_eq_true rfl) rfl rfl ?_
  refine J_if_eq (pc := 7) (tgt := 15) X dX13_line_7 rfl (fun c3 => ?_) (fun c3 => ?_)
  · have hq := ite_t hq c3
    refine J_aload_n (pc := 15) X (j := 0) (i := 0) rfl rfl dX13_line_15 ?_
    refine J_ldc2 (pc := 16) X cl_13_133 dX13_line_16 ?_
    obtain ⟨v5, h4, hc, hq⟩ := bnd_e hq
    refine J_callV (pc := 19) (as := [.inr (.inl 1835102827)]) (st := []) (st2 := [.inl v5]) (r1 := (some (.inl v5), h4)) (h2 := h4) (ky := 1) X dX13_line_19 ca_X13_isWord ci_X13_isWord cs_X13_isWord ml_13_219 (by decide) ly155 rfl rfl (m_X13_isWord _ _ _ hc) rfl rfl (Nat.le_of_ble_eq_true rfl) rfl rfl ?_
    refine J_if_eq (pc := 22) (tgt := 75) X dX13_line_22 rfl (fun c6 => ?_) (fun c6 => ?_)
    · have hq := ite_t hq c6
      refine J_aload_n (pc := 75) X (j := 0) (i := 0) rfl rfl dX13_line_75 ?_
      refine J_ldc2 (pc := 76) X cl_13_135 dX13_line_76 ?_
      obtain ⟨v8, h7, hc, hq⟩ := bnd_e hq
      refine J_callV (pc := 79) (as := [.inr (.inl 112628746448759)]) (st := []) (st2 := [.inl v8]) (r1 := (some (.inl v8), h7)) (h2 := h7) (ky := 1) X dX13_line_79 ca_X13_isWord ci_X13_isWord cs_X13_isWord ml_13_219 (by decide) ly155 rfl rfl (m_X13_isWord _ _ _ hc) rfl rfl (Nat.le_of_ble_eq_true rfl) rfl rfl ?_
      refine J_if_eq (pc := 82) (tgt := 90) X dX13_line_82 rfl (fun c9 => ?_) (fun c9 => ?_)
      · have hq := ite_t hq c9
        refine J_aload_n (pc := 90) X (j := 0) (i := 0) rfl rfl dX13_line_90 ?_
        refine J_ldc2 (pc := 91) X cl_13_137 dX13_line_91 ?_
        obtain ⟨v11, h10, hc, hq⟩ := bnd_e hq
        refine J_callV (pc := 94) (as := [.inr (.inl 2003792484)]) (st := []) (st2 := [.inl v11]) (r1 := (some (.inl v11), h10)) (h2 := h10) (ky := 1) X dX13_line_94 ca_X13_isWord ci_X13_isWord cs_X13_isWord ml_13_219 (by decide) ly155 rfl rfl (m_X13_isWord _ _ _ hc) rfl rfl (Nat.le_of_ble_eq_true rfl) rfl rfl ?_
        refine J_if_eq (pc := 97) (tgt := 105) X dX13_line_97 rfl (fun c12 => ?_) (fun c12 => ?_)
        · have hq := ite_t hq c12
          refine J_aload_n (pc := 105) X (j := 0) (i := 0) rfl rfl dX13_line_105 ?_
          refine J_ldc2 (pc := 106) X cl_13_147 dX13_line_106 ?_
          obtain ⟨v14, h13, hc, hq⟩ := bnd_e hq
          refine J_callV (pc := 109) (as := [.inr (.inl 491327153267)]) (st := []) (st2 := [.inl v14]) (r1 := (some (.inl v14), h13)) (h2 := h13) (ky := 1) X dX13_line_109 ca_X13_isWord ci_X13_isWord cs_X13_isWord ml_13_219 (by decide) ly155 rfl rfl (m_X13_isWord _ _ _ hc) rfl rfl (Nat.le_of_ble_eq_true rfl) rfl rfl ?_
          refine J_if_eq (pc := 112) (tgt := 120) X dX13_line_112 rfl (fun c15 => ?_) (fun c15 => ?_)
          · have hq := ite_t hq c15
            refine J_aload_n (pc := 120) X (j := 0) (i := 0) rfl rfl dX13_line_120 ?_
            refine J_ldc2 (pc := 121) X cl_13_155 dX13_line_121 ?_
            obtain ⟨v17, h16, hc, hq⟩ := bnd_e hq
            refine J_callV (pc := 124) (as := [.inr (.inl 435476325236)]) (st := []) (st2 := [.inl v17]) (r1 := (some (.inl v17), h16)) (h2 := h16) (ky := 1) X dX13_line_124 ca_X13_isWord ci_X13_isWord cs_X13_isWord ml_13_219 (by decide) ly155 rfl rfl (m_X13_isWord _ _ _ hc) rfl rfl (Nat.le_of_ble_eq_true rfl) rfl rfl ?_
            refine J_if_eq (pc := 127) (tgt := 135) X dX13_line_127 rfl (fun c18 => ?_) (fun c18 => ?_)
            · have hq := ite_t hq c18
              refine J_aload_n (pc := 135) X (j := 0) (i := 0) rfl rfl dX13_line_135 ?_
              refine J_ldc2 (pc := 136) X cl_13_157 dX13_line_136 ?_
              obtain ⟨v20, h19, hc, hq⟩ := bnd_e hq
              refine J_callV (pc := 139) (as := [.inr (.inl 427020350059)]) (st := []) (st2 := [.inl v20]) (r1 := (some (.inl v20), h19)) (h2 := h19) (ky := 1) X dX13_line_139 ca_X13_isWord ci_X13_isWord cs_X13_isWord ml_13_219 (by decide) ly155 rfl rfl (m_X13_isWord _ _ _ hc) rfl rfl (Nat.le_of_ble_eq_true rfl) rfl rfl ?_
              refine J_if_eq (pc := 142) (tgt := 152) X dX13_line_142 rfl (fun c21 => ?_) (fun c21 => ?_)
              · have hq := ite_t hq c21
                refine J_aload_n (pc := 152) X (j := 0) (i := 0) rfl rfl dX13_line_152 ?_
                refine J_iconst (pc := 153) X (v := 1) (by decide) dX13_line_153 ?_
                obtain ⟨v23, h22, hc, hq⟩ := bnd_e hq
                refine J_callV (pc := 154) (as := [.inl 1]) (st := []) (st2 := [.inl v23]) (r1 := (some (.inl v23), h22)) (h2 := h22) (ky := 1) X dX13_line_154 ca_X13_bad ci_X13_bad cs_X13_bad ml_13_198 (by decide) ly155 rfl rfl (m_X13_bad _ _ _ hc) rfl rfl (Nat.le_of_ble_eq_true rfl) rfl rfl ?_
                obtain ⟨g24, hq⟩ := gd hq
                obtain rfl := Option.some.inj hq
                exact J_zret (pc := 157) X g24 dX13_line_157
              · have hq := ite_f hq c21
                refine J_aload_n (pc := 145) X (j := 0) (i := 0) rfl rfl dX13_line_145 ?_
                obtain ⟨v26, h25, hc, hq⟩ := bnd_e hq
                refine J_callV (pc := 146) (as := []) (st := []) (st2 := [.inl v26]) (r1 := (some (.inl v26), h25)) (h2 := h25) (ky := 4) X dX13_line_146 ca_X13_readClerk ci_X13_readClerk cs_X13_readClerk ml_13_241 (by decide) ly155 rfl rfl (m_X13_readClerk _ _ hc) rfl rfl (Nat.le_of_ble_eq_true rfl) rfl rfl ?_
                refine J_goto (pc := 149) X (tgt := 157) dX13_line_149 rfl ?_
                obtain ⟨g27, hq⟩ := gd hq
                obtain rfl := Option.some.inj hq
                exact J_zret (pc := 157) X g27 dX13_line_157
            · have hq := ite_f hq c18
              refine J_aload_n (pc := 130) X (j := 0) (i := 0) rfl rfl dX13_line_130 ?_
              obtain ⟨v29, h28, hc, hq⟩ := bnd_e hq
              refine J_callV (pc := 131) (as := []) (st := []) (st2 := [.inl v29]) (r1 := (some (.inl v29), h28)) (h2 := h28) (ky := 4) X dX13_line_131 ca_X13_readEdict ci_X13_readEdict cs_X13_readEdict ml_13_238 (by decide) ly155 rfl rfl (m_X13_readEdict _ _ hc) rfl rfl (Nat.le_of_ble_eq_true rfl) rfl rfl ?_
              obtain ⟨g30, hq⟩ := gd hq
              obtain rfl := Option.some.inj hq
              exact J_zret (pc := 134) X g30 dX13_line_134
          · have hq := ite_f hq c15
            refine J_aload_n (pc := 115) X (j := 0) (i := 0) rfl rfl dX13_line_115 ?_
            obtain ⟨v32, h31, hc, hq⟩ := bnd_e hq
            refine J_callV (pc := 116) (as := []) (st := []) (st2 := [.inl v32]) (r1 := (some (.inl v32), h31)) (h2 := h31) (ky := 4) X dX13_line_116 ca_X13_readReads ci_X13_readReads cs_X13_readReads ml_13_235 (by decide) ly155 rfl rfl (m_X13_readReads _ _ hc) rfl rfl (Nat.le_of_ble_eq_true rfl) rfl rfl ?_
            obtain ⟨g33, hq⟩ := gd hq
            obtain rfl := Option.some.inj hq
            exact J_zret (pc := 119) X g33 dX13_line_119
        · have hq := ite_f hq c12
          refine J_aload_n (pc := 100) X (j := 0) (i := 0) rfl rfl dX13_line_100 ?_
          obtain ⟨v35, h34, hc, hq⟩ := bnd_e hq
          refine J_callV (pc := 101) (as := []) (st := []) (st2 := [.inl v35]) (r1 := (some (.inl v35), h34)) (h2 := h34) (ky := 4) X dX13_line_101 ca_X13_readWord ci_X13_readWord cs_X13_readWord ml_13_232 (by decide) ly155 rfl rfl (m_X13_readWord _ _ hc) rfl rfl (Nat.le_of_ble_eq_true rfl) rfl rfl ?_
          obtain ⟨g36, hq⟩ := gd hq
          obtain rfl := Option.some.inj hq
          exact J_zret (pc := 104) X g36 dX13_line_104
      · have hq := ite_f hq c9
        refine J_aload_n (pc := 85) X (j := 0) (i := 0) rfl rfl dX13_line_85 ?_
        obtain ⟨v38, h37, hc, hq⟩ := bnd_e hq
        refine J_callV (pc := 86) (as := []) (st := []) (st2 := [.inl v38]) (r1 := (some (.inl v38), h37)) (h2 := h37) (ky := 4) X dX13_line_86 ca_X13_readFollow ci_X13_readFollow cs_X13_readFollow ml_13_229 (by decide) ly155 rfl rfl (m_X13_readFollow _ _ hc) rfl rfl (Nat.le_of_ble_eq_true rfl) rfl rfl ?_
        obtain ⟨g39, hq⟩ := gd hq
        obtain rfl := Option.some.inj hq
        exact J_zret (pc := 89) X g39 dX13_line_89
    · have hq := ite_f hq c6
      refine J_aload_n (pc := 25) X (j := 0) (i := 0) rfl rfl dX13_line_25 ?_
      refine J_getF (pc := 26) X (b := 158) ly155 fl_13_37 rfl dX13_line_26 ?_
      refine J_iconst (pc := 29) X (v := 1) (by decide) dX13_line_29 ?_
      refine J_iaload (pc := 30) X ly158 (by decide) dX13_line_30 ?_
      refine J_iconst (pc := 31) X (v := 3) (by decide) dX13_line_31 ?_
      refine J_icmp_ne (pc := 32) (tgt := 41) X dX13_line_32 rfl (fun c40 => ?_) (fun c40 => ?_)
      · have hq := ite_f hq c40
        refine J_aload_n (pc := 41) X (j := 0) (i := 0) rfl rfl dX13_line_41 ?_
        obtain ⟨h41, hc, hq⟩ := bnv_e hq
        refine J_callV (pc := 42) (as := []) (st := []) (st2 := []) (r1 := (none, h41)) (h2 := h41) (ky := 2) X dX13_line_42 ca_X13_next ci_X13_next cs_X13_next ml_13_201 (by decide) ly155 rfl rfl (m_X13_next _ _ hc) rfl rfl (Nat.le_of_ble_eq_true rfl) rfl rfl ?_
        refine J_aload_n (pc := 45) X (j := 0) (i := 0) rfl rfl dX13_line_45 ?_
        refine J_bipush (pc := 46) X (v := 21) (by decide) dX13_line_46 ?_
        refine J_aload_n (pc := 48) X (j := 0) (i := 0) rfl rfl dX13_line_48 ?_
        refine J_getF (pc := 49) X (b := 158) ly155 fl_13_37 rfl dX13_line_49 ?_
        refine J_iconst (pc := 52) X (v := 1) (by decide) dX13_line_52 ?_
        refine J_iaload (pc := 53) X ly158 (by decide) dX13_line_53 ?_
        refine J_iadd (pc := 54) X dX13_line_54 ?_
        obtain ⟨v43, h42, hc, hq⟩ := bnd_e hq
        refine J_callV (pc := 55) (as := [.inl (21 + (h41.1 158 ((1 : Int32).toNatClampNeg)))]) (st := []) (st2 := [.inl v43]) (r1 := (some (.inl v43), h42)) (h2 := h42) (ky := 3) X dX13_line_55 ca_X13_fresh ci_X13_fresh cs_X13_fresh ml_13_226 (by decide) ly155 rfl rfl (m_X13_fresh _ _ _ hc) rfl rfl (Nat.le_of_ble_eq_true rfl) rfl rfl ?_
        refine J_if_ne (pc := 58) (tgt := 63) X dX13_line_58 rfl (fun c44 => ?_) (fun c44 => ?_)
        · have hq := ite_f hq c44
          refine J_aload_n (pc := 63) X (j := 0) (i := 0) rfl rfl dX13_line_63 ?_
          refine J_getF (pc := 64) X (b := 158) ly155 fl_13_37 rfl dX13_line_64 ?_
          refine J_iconst (pc := 67) X (v := 1) (by decide) dX13_line_67 ?_
          refine J_dup2 (pc := 68) X rfl rfl dX13_line_68 ?_
          refine J_iaload (pc := 69) X ly158 (by decide) dX13_line_69 ?_
          refine J_iconst (pc := 70) X (v := 1) (by decide) dX13_line_70 ?_
          refine J_iadd (pc := 71) X dX13_line_71 ?_
          refine J_iastore (pc := 72) X ly158 (by decide) dX13_line_72 ?_
          refine J_ltH hq (fun h45 hq => ?_)
          refine J_iconst (pc := 73) X (v := 1) (by decide) dX13_line_73 ?_
          obtain rfl := Option.some.inj hq
          exact J_zret (pc := 74) X (by decide) dX13_line_74
        · have hq := ite_t hq c44
          refine J_iconst (pc := 61) X (v := 0) (by decide) dX13_line_61 ?_
          obtain rfl := Option.some.inj hq
          exact J_zret (pc := 62) X (by decide) dX13_line_62
      · have hq := ite_t hq c40
        refine J_aload_n (pc := 35) X (j := 0) (i := 0) rfl rfl dX13_line_35 ?_
        refine J_iconst (pc := 36) X (v := 4) (by decide) dX13_line_36 ?_
        obtain ⟨v47, h46, hc, hq⟩ := bnd_e hq
        refine J_callV (pc := 37) (as := [.inl 4]) (st := []) (st2 := [.inl v47]) (r1 := (some (.inl v47), h46)) (h2 := h46) (ky := 1) X dX13_line_37 ca_X13_bad ci_X13_bad cs_X13_bad ml_13_198 (by decide) ly155 rfl rfl (m_X13_bad _ _ _ hc) rfl rfl (Nat.le_of_ble_eq_true rfl) rfl rfl ?_
        obtain ⟨g48, hq⟩ := gd hq
        obtain rfl := Option.some.inj hq
        exact J_zret (pc := 40) X g48 dX13_line_40
  · have hq := ite_f hq c3
    refine J_aload_n (pc := 10) X (j := 0) (i := 0) rfl rfl dX13_line_10 ?_
    obtain ⟨v50, h49, hc, hq⟩ := bnd_e hq
    refine J_callV (pc := 11) (as := []) (st := []) (st2 := [.inl v50]) (r1 := (some (.inl v50), h49)) (h2 := h49) (ky := 4) X dX13_line_11 ca_X13_readSort ci_X13_readSort cs_X13_readSort ml_13_223 (by decide) ly155 rfl rfl (m_X13_readSort _ _ hc) rfl rfl (Nat.le_of_ble_eq_true rfl) rfl rfl ?_
    obtain ⟨g51, hq⟩ := gd hq
    obtain rfl := Option.some.inj hq
    exact J_zret (pc := 14) X g51 dX13_line_14
theorem m_X13_line (h : Hp) (q : (Int32 × Hp)) (hq : f_X13_line  h = some q) : ∀ l w, CT l w yX13_line cX13_line 1 (some .boolean) 5 [.inr (.inr 155)] h (some (.inl q.1), q.2) :=
  CT_of (L0 := [(0, .inr (.inr 155))]) (by decide) rfl (Nat.le_of_ble_eq_true rfl) (fun κ X => tf_X13_line X  h q  hq)
theorem tF_X13_tongue_40 {κ : Kx} (X : OK κ cX13_tongue 2 (some .int) "StruckWordsModel" 6) (k63 : Hp → Option (Int32 × Hp)) (k83 : Hp → Option (Int32 × Hp)) (self : Hp → Option (Int32 × Hp)) (h : Hp) (q : (Int32 × Hp)) (hk63 : ∀ (h : Hp) (q : (Int32 × Hp)), k63 h = some q → J κ 63 [(0, .inr (.inr 155))] [] h (some (.inl q.1), q.2)) (hk83 : ∀ (h : Hp) (q : (Int32 × Hp)), k83 h = some q → J κ 83 [(0, .inr (.inr 155))] [] h (some (.inl q.1), q.2)) (hself : ∀ (h : Hp) (q : (Int32 × Hp)), self h = some q → J κ 40 [(0, .inr (.inr 155))] [] h (some (.inl q.1), q.2)) (hq : F_X13_tongue_40 k63 k83 self h = some q) : J κ 40 [(0, .inr (.inr 155))] [] h (some (.inl q.1), q.2) := by
  delta F_X13_tongue_40 at hq
  refine J_aload_n (pc := 40) X (j := 0) (i := 0) rfl rfl dX13_tongue_40 ?_
  refine J_getI (pc := 41) X ly155 fl_13_172 dX13_tongue_41 ?_
  refine J_if_eq (pc := 44) (tgt := 83) X dX13_tongue_44 rfl (fun c9 => ?_) (fun c9 => ?_)
  · have hq := ite_t hq c9
    exact hk83 _ _ hq
  · have hq := ite_f hq c9
    refine J_aload_n (pc := 47) X (j := 0) (i := 0) rfl rfl dX13_tongue_47 ?_
    obtain ⟨v11, h10, hc, hq⟩ := bnd_e hq
    refine J_callV (pc := 48) (as := []) (st := []) (st2 := [.inl v11]) (r1 := (some (.inl v11), h10)) (h2 := h10) (ky := 5) X dX13_tongue_48 ca_X13_line ci_X13_line cs_X13_line ml_13_266 (by decide) ly155 rfl rfl (m_X13_line _ _ hc) rfl rfl (Nat.le_of_ble_eq_true rfl) rfl rfl ?_
    refine J_if_eq (pc := 51) (tgt := 63) X dX13_tongue_51 rfl (fun c12 => ?_) (fun c12 => ?_)
    · have hq := ite_t hq c12
      exact hk63 _ _ hq
    · have hq := ite_f hq c12
      refine J_aload_n (pc := 54) X (j := 0) (i := 0) rfl rfl dX13_tongue_54 ?_
      refine J_bipush (pc := 55) X (v := 59) (by decide) dX13_tongue_55 ?_
      obtain ⟨v14, h13, hc, hq⟩ := bnd_e hq
      refine J_callV (pc := 57) (as := [.inl 59]) (st := []) (st2 := [.inl v14]) (r1 := (some (.inl v14), h13)) (h2 := h13) (ky := 3) X dX13_tongue_57 ca_X13_sign ci_X13_sign cs_X13_sign ml_13_269 (by decide) ly155 rfl rfl (m_X13_sign _ _ _ hc) rfl rfl (Nat.le_of_ble_eq_true rfl) rfl rfl ?_
      refine J_if_ne (pc := 60) (tgt := 70) X dX13_tongue_60 rfl (fun c15 => ?_) (fun c15 => ?_)
      · have hq := ite_f hq c15
        refine J_aload_n (pc := 70) X (j := 0) (i := 0) rfl rfl dX13_tongue_70 ?_
        refine J_dup (pc := 71) X rfl dX13_tongue_71 ?_
        refine J_getI (pc := 72) X ly155 fl_13_263 dX13_tongue_72 ?_
        refine J_iconst (pc := 75) X (v := 1) (by decide) dX13_tongue_75 ?_
        refine J_iadd (pc := 76) X dX13_tongue_76 ?_
        refine J_putI (pc := 77) X ly155 fp_13_263 dX13_tongue_77 ?_
        refine J_ltH hq (fun h16 hq => ?_)
        refine J_goto (pc := 80) X (tgt := 40) dX13_tongue_80 rfl ?_
        exact hself _ _ hq
      · have hq := ite_t hq c15
        exact hk63 _ _ hq
theorem tL_X13_tongue_40 {κ : Kx} (X : OK κ cX13_tongue 2 (some .int) "StruckWordsModel" 6) (k63 : Hp → Option (Int32 × Hp)) (k83 : Hp → Option (Int32 × Hp)) (N : Nat) (h : Hp) (q : (Int32 × Hp)) (hk63 : ∀ (h : Hp) (q : (Int32 × Hp)), k63 h = some q → J κ 63 [(0, .inr (.inr 155))] [] h (some (.inl q.1), q.2)) (hk83 : ∀ (h : Hp) (q : (Int32 × Hp)), k83 h = some q → J κ 83 [(0, .inr (.inr 155))] [] h (some (.inl q.1), q.2)) (hq : itr1 (F_X13_tongue_40 k63 k83) N h = some q) : J κ 40 [(0, .inr (.inr 155))] [] h (some (.inl q.1), q.2) :=
  itr1_ind (fun self hs  h q hq => tF_X13_tongue_40 X k63 k83 self h q hk63 hk83 hs hq) N  h q hq
theorem tB_X13_tongue_114 {κ : Kx} (X : OK κ cX13_tongue 2 (some .int) "StruckWordsModel" 6) (k121 : Hp → Option (Int32 × Hp)) (self : Int32 → Hp → Option (Int32 × Hp)) (x1 : Int32) (t0 : Int32) (t1 : Int32) (h : Hp) (q : (Int32 × Hp)) (hk121 : ∀ (h : Hp) (q : (Int32 × Hp)), k121 h = some q → J κ 121 [(0, .inr (.inr 155))] [] h (some (.inl q.1), q.2)) (hself : ∀ (x1 : Int32) (h : Hp) (q : (Int32 × Hp)), self x1 h = some q → J κ 85 [(0, .inr (.inr 155)), (1, .inl x1)] [] h (some (.inl q.1), q.2)) (hq : B_X13_tongue_114 k121 self x1 t0 t1 h = some q) : J κ 114 [(0, .inr (.inr 155)), (1, .inl x1)] [.inl t0, .inl t1, .inr (.inr 157)] h (some (.inl q.1), q.2) := by
  delta B_X13_tongue_114 at hq
  obtain ⟨g21, hq⟩ := gd hq
  refine J_iastore (pc := 114) X ly157 g21 dX13_tongue_114 ?_
  refine J_ltH hq (fun h22 hq => ?_)
  refine J_iinc (pc := 115) X (j := 1) (v := 1) (L' := [(1, .inl (x1 + 1)), (0, .inr (.inr 155))]) rfl (by decide) (by decide) rfl dX13_tongue_115 ?_
  refine J_goto (pc := 118) X (tgt := 85) dX13_tongue_118 rfl ?_
  refine J_sub [1, 0] rfl ?_
  exact hself _ _ _ hq
theorem tF_X13_tongue_85 {κ : Kx} (X : OK κ cX13_tongue 2 (some .int) "StruckWordsModel" 6) (k121 : Hp → Option (Int32 × Hp)) (self : Int32 → Hp → Option (Int32 × Hp)) (x1 : Int32) (h : Hp) (q : (Int32 × Hp)) (hk121 : ∀ (h : Hp) (q : (Int32 × Hp)), k121 h = some q → J κ 121 [(0, .inr (.inr 155))] [] h (some (.inl q.1), q.2)) (hself : ∀ (x1 : Int32) (h : Hp) (q : (Int32 × Hp)), self x1 h = some q → J κ 85 [(0, .inr (.inr 155)), (1, .inl x1)] [] h (some (.inl q.1), q.2)) (hq : F_X13_tongue_85 k121 self x1 h = some q) : J κ 85 [(0, .inr (.inr 155)), (1, .inl x1)] [] h (some (.inl q.1), q.2) := by
  delta F_X13_tongue_85 at hq
  refine J_iload_n (pc := 85) X (j := 1) (i := 1) rfl rfl dX13_tongue_85 ?_
  refine J_sipush (pc := 86) X (v := 713) (by decide) dX13_tongue_86 ?_
  refine J_icmp_ge (pc := 89) (tgt := 121) X dX13_tongue_89 rfl (fun c19 => ?_) (fun c19 => ?_)
  · have hq := ite_t hq c19
    refine J_sub [0] rfl ?_
    exact hk121 _ _ hq
  · have hq := ite_f hq c19
    refine J_aload_n (pc := 92) X (j := 0) (i := 0) rfl rfl dX13_tongue_92 ?_
    refine J_getF (pc := 93) X (b := 157) ly155 fl_13_33 rfl dX13_tongue_93 ?_
    refine J_iload_n (pc := 96) X (j := 1) (i := 1) rfl rfl dX13_tongue_96 ?_
    refine J_iload_n (pc := 97) X (j := 1) (i := 1) rfl rfl dX13_tongue_97 ?_
    refine J_sipush (pc := 98) X (v := 437) (by decide) dX13_tongue_98 ?_
    refine J_icmp_ge (pc := 101) (tgt := 113) X dX13_tongue_101 rfl (fun c20 => ?_) (fun c20 => ?_)
    · have hq := ite_t hq c20
      refine J_iconst (pc := 113) X (v := 0) (by decide) dX13_tongue_113 ?_
      exact tB_X13_tongue_114 X _ _ _ _ _ _ _ hk121 hself hq
    · have hq := ite_f hq c20
      refine J_aload_n (pc := 104) X (j := 0) (i := 0) rfl rfl dX13_tongue_104 ?_
      refine J_getF (pc := 105) X (b := 158) ly155 fl_13_37 rfl dX13_tongue_105 ?_
      refine J_iload_n (pc := 108) X (j := 1) (i := 1) rfl rfl dX13_tongue_108 ?_
      obtain ⟨g23, hq⟩ := gd hq
      refine J_iaload (pc := 109) X ly158 g23 dX13_tongue_109 ?_
      refine J_goto (pc := 110) X (tgt := 114) dX13_tongue_110 rfl ?_
      exact tB_X13_tongue_114 X _ _ _ _ _ _ _ hk121 hself hq
theorem tL_X13_tongue_85 {κ : Kx} (X : OK κ cX13_tongue 2 (some .int) "StruckWordsModel" 6) (k121 : Hp → Option (Int32 × Hp)) (N : Nat) (x1 : Int32) (h : Hp) (q : (Int32 × Hp)) (hk121 : ∀ (h : Hp) (q : (Int32 × Hp)), k121 h = some q → J κ 121 [(0, .inr (.inr 155))] [] h (some (.inl q.1), q.2)) (hq : itr2 (F_X13_tongue_85 k121) N x1 h = some q) : J κ 85 [(0, .inr (.inr 155)), (1, .inl x1)] [] h (some (.inl q.1), q.2) :=
  itr2_ind (fun self hs x1 h q hq => tF_X13_tongue_85 X k121 self x1 h q hk121 hs hq) N x1 h q hq
theorem tF_X13_tongue_123 {κ : Kx} (X : OK κ cX13_tongue 2 (some .int) "StruckWordsModel" 6) (k150 : Hp → Option (Int32 × Hp)) (self : Int32 → Hp → Option (Int32 × Hp)) (x1 : Int32) (h : Hp) (q : (Int32 × Hp)) (hk150 : ∀ (h : Hp) (q : (Int32 × Hp)), k150 h = some q → J κ 150 [(0, .inr (.inr 155))] [] h (some (.inl q.1), q.2)) (hself : ∀ (x1 : Int32) (h : Hp) (q : (Int32 × Hp)), self x1 h = some q → J κ 123 [(0, .inr (.inr 155)), (1, .inl x1)] [] h (some (.inl q.1), q.2)) (hq : F_X13_tongue_123 k150 self x1 h = some q) : J κ 123 [(0, .inr (.inr 155)), (1, .inl x1)] [] h (some (.inl q.1), q.2) := by
  delta F_X13_tongue_123 at hq
  refine J_iload_n (pc := 123) X (j := 1) (i := 1) rfl rfl dX13_tongue_123 ?_
  refine J_bipush (pc := 124) X (v := 16) (by decide) dX13_tongue_124 ?_
  refine J_icmp_ge (pc := 126) (tgt := 150) X dX13_tongue_126 rfl (fun c25 => ?_) (fun c25 => ?_)
  · have hq := ite_t hq c25
    refine J_sub [0] rfl ?_
    exact hk150 _ _ hq
  · have hq := ite_f hq c25
    refine J_aload_n (pc := 129) X (j := 0) (i := 0) rfl rfl dX13_tongue_129 ?_
    refine J_getF (pc := 130) X (b := 159) ly155 fl_13_40 rfl dX13_tongue_130 ?_
    refine J_iload_n (pc := 133) X (j := 1) (i := 1) rfl rfl dX13_tongue_133 ?_
    refine J_aload_n (pc := 134) X (j := 0) (i := 0) rfl rfl dX13_tongue_134 ?_
    refine J_getF (pc := 135) X (b := 159) ly155 fl_13_40 rfl dX13_tongue_135 ?_
    refine J_bipush (pc := 138) X (v := 16) (by decide) dX13_tongue_138 ?_
    refine J_iload_n (pc := 140) X (j := 1) (i := 1) rfl rfl dX13_tongue_140 ?_
    refine J_iadd (pc := 141) X dX13_tongue_141 ?_
    obtain ⟨g26, hq⟩ := gd hq
    refine J_laload (pc := 142) X ly159 g26 dX13_tongue_142 ?_
    obtain ⟨g27, hq⟩ := gd hq
    refine J_lastore (pc := 143) X ly159 g27 dX13_tongue_143 ?_
    refine J_ltH hq (fun h28 hq => ?_)
    refine J_iinc (pc := 144) X (j := 1) (v := 1) (L' := [(1, .inl (x1 + 1)), (0, .inr (.inr 155))]) rfl (by decide) (by decide) rfl dX13_tongue_144 ?_
    refine J_goto (pc := 147) X (tgt := 123) dX13_tongue_147 rfl ?_
    refine J_sub [1, 0] rfl ?_
    exact hself _ _ _ hq
theorem tL_X13_tongue_123 {κ : Kx} (X : OK κ cX13_tongue 2 (some .int) "StruckWordsModel" 6) (k150 : Hp → Option (Int32 × Hp)) (N : Nat) (x1 : Int32) (h : Hp) (q : (Int32 × Hp)) (hk150 : ∀ (h : Hp) (q : (Int32 × Hp)), k150 h = some q → J κ 150 [(0, .inr (.inr 155))] [] h (some (.inl q.1), q.2)) (hq : itr2 (F_X13_tongue_123 k150) N x1 h = some q) : J κ 123 [(0, .inr (.inr 155)), (1, .inl x1)] [] h (some (.inl q.1), q.2) :=
  itr2_ind (fun self hs x1 h q hq => tF_X13_tongue_123 X k150 self x1 h q hk150 hs hq) N x1 h q hq
theorem tf_X13_tongue {κ : Kx} (X : OK κ cX13_tongue 2 (some .int) "StruckWordsModel" 6) (h : Hp) (q : (Int32 × Hp)) (hq : f_X13_tongue h = some q) : J κ 0 [(0, .inr (.inr 155))] [] h (some (.inl q.1), q.2) := by
  delta f_X13_tongue at hq
  refine J_aload_n (pc := 0) X (j := 0) (i := 0) rfl rfl dX13_tongue_0 ?_
  refine J_iconst (pc := 1) X (v := 0) (by decide) dX13_tongue_1 ?_
  refine J_putI (pc := 2) X ly155 fp_13_1 dX13_tongue_2 ?_
  refine J_ltH hq (fun h1 hq => ?_)
  refine J_aload_n (pc := 5) X (j := 0) (i := 0) rfl rfl dX13_tongue_5 ?_
  refine J_sipush (pc := 6) X (v := 900) (by decide) dX13_tongue_6 ?_
  obtain ⟨h2, hc, hq⟩ := bnv_e hq
  refine J_callV (pc := 9) (as := [.inl 900]) (st := []) (st2 := []) (r1 := (none, h2)) (h2 := h2) (ky := 1) X dX13_tongue_9 ca_X13_taken ci_X13_taken cs_X13_taken ml_13_260 (by decide) ly155 rfl rfl (m_X13_taken _ _ _ hc) rfl rfl (Nat.le_of_ble_eq_true rfl) rfl rfl ?_
  refine J_aload_n (pc := 12) X (j := 0) (i := 0) rfl rfl dX13_tongue_12 ?_
  refine J_iconst (pc := 13) X (v := 0) (by decide) dX13_tongue_13 ?_
  refine J_putI (pc := 14) X ly155 fp_13_189 dX13_tongue_14 ?_
  refine J_ltH hq (fun h3 hq => ?_)
  refine J_aload_n (pc := 17) X (j := 0) (i := 0) rfl rfl dX13_tongue_17 ?_
  refine J_iconst (pc := 18) X (v := 0) (by decide) dX13_tongue_18 ?_
  refine J_putI (pc := 19) X ly155 fp_13_263 dX13_tongue_19 ?_
  refine J_ltH hq (fun h4 hq => ?_)
  refine J_aload_n (pc := 22) X (j := 0) (i := 0) rfl rfl dX13_tongue_22 ?_
  refine J_iconst (pc := 23) X (v := 0) (by decide) dX13_tongue_23 ?_
  refine J_putI (pc := 24) X ly155 fp_13_254 dX13_tongue_24 ?_
  refine J_ltH hq (fun h5 hq => ?_)
  refine J_aload_n (pc := 27) X (j := 0) (i := 0) rfl rfl dX13_tongue_27 ?_
  refine J_iconst (pc := 28) X (v := 0) (by decide) dX13_tongue_28 ?_
  refine J_putZ (pc := 29) X ly155 fp_13_251 (by decide) dX13_tongue_29 ?_
  refine J_ltH hq (fun h6 hq => ?_)
  refine J_aload_n (pc := 32) X (j := 0) (i := 0) rfl rfl dX13_tongue_32 ?_
  obtain ⟨h7, hc, hq⟩ := bnv_e hq
  refine J_callV (pc := 33) (as := []) (st := []) (st2 := []) (r1 := (none, h7)) (h2 := h7) (ky := 1) X dX13_tongue_33 ca_X13_plainTongue ci_X13_plainTongue cs_X13_plainTongue ml_13_159 (by decide) ly155 rfl rfl (m_X13_plainTongue _ _ hc) rfl rfl (Nat.le_of_ble_eq_true rfl) rfl rfl ?_
  refine J_aload_n (pc := 36) X (j := 0) (i := 0) rfl rfl dX13_tongue_36 ?_
  obtain ⟨h8, hc, hq⟩ := bnv_e hq
  refine J_callV (pc := 37) (as := []) (st := []) (st2 := []) (r1 := (none, h8)) (h2 := h8) (ky := 2) X dX13_tongue_37 ca_X13_next ci_X13_next cs_X13_next ml_13_201 (by decide) ly155 rfl rfl (m_X13_next _ _ hc) rfl rfl (Nat.le_of_ble_eq_true rfl) rfl rfl ?_
  refine tL_X13_tongue_40 X _ _ N0 _ _ ?_ ?_ hq
  · intro h17 q hq
    refine J_iconst (pc := 63) X (v := (-1)) (by decide) dX13_tongue_63 ?_
    refine J_aload_n (pc := 64) X (j := 0) (i := 0) rfl rfl dX13_tongue_64 ?_
    refine J_getI (pc := 65) X ly155 fl_13_192 dX13_tongue_65 ?_
    refine J_isub (pc := 68) X dX13_tongue_68 ?_
    obtain rfl := Option.some.inj hq
    exact J_iret (pc := 69) X dX13_tongue_69
  · intro h18 q hq
    refine J_iconst (pc := 83) X (v := 0) (by decide) dX13_tongue_83 ?_
    refine J_istore_n (pc := 84) X (L' := [(1, .inl 0), (0, .inr (.inr 155))]) (i := 1) rfl (by decide) rfl dX13_tongue_84 ?_
    refine J_sub [1, 0] rfl ?_
    refine tL_X13_tongue_85 X _ N0 _ _ _ ?_ hq
    · intro h24 q hq
      refine J_iconst (pc := 121) X (v := 0) (by decide) dX13_tongue_121 ?_
      refine J_istore_n (pc := 122) X (L' := [(1, .inl 0), (0, .inr (.inr 155))]) (i := 1) rfl (by decide) rfl dX13_tongue_122 ?_
      refine J_sub [1, 0] rfl ?_
      refine tL_X13_tongue_123 X _ N0 _ _ _ ?_ hq
      · intro h29 q hq
        refine J_aload_n (pc := 150) X (j := 0) (i := 0) rfl rfl dX13_tongue_150 ?_
        refine J_iconst (pc := 151) X (v := 1) (by decide) dX13_tongue_151 ?_
        refine J_putZ (pc := 152) X ly155 fp_13_65 (by decide) dX13_tongue_152 ?_
        refine J_ltH hq (fun h30 hq => ?_)
        refine J_aload_n (pc := 155) X (j := 0) (i := 0) rfl rfl dX13_tongue_155 ?_
        refine J_getI (pc := 156) X ly155 fl_13_263 dX13_tongue_156 ?_
        obtain rfl := Option.some.inj hq
        exact J_iret (pc := 159) X dX13_tongue_159
theorem m_X13_tongue (h : Hp) (q : (Int32 × Hp)) (hq : f_X13_tongue  h = some q) : ∀ l w, CT l w yX13_tongue cX13_tongue 2 (some .int) 6 [.inr (.inr 155)] h (some (.inl q.1), q.2) :=
  CT_of (L0 := [(0, .inr (.inr 155))]) (by decide) rfl (Nat.le_of_ble_eq_true rfl) (fun κ X => tf_X13_tongue X  h q  hq)
theorem tf_X13_fault {κ : Kx} (X : OK κ cX13_fault 1 (some .int) "StruckWordsModel" 1) (h : Hp) (q : (Int32 × Hp)) (hq : f_X13_fault h = some q) : J κ 0 [(0, .inr (.inr 155))] [] h (some (.inl q.1), q.2) := by
  delta f_X13_fault at hq
  refine J_aload_n (pc := 0) X (j := 0) (i := 0) rfl rfl dX13_fault_0 ?_
  refine J_iconst (pc := 1) X (v := 0) (by decide) dX13_fault_1 ?_
  refine J_putI (pc := 2) X ly155 fp_13_1 dX13_fault_2 ?_
  refine J_ltH hq (fun h1 hq => ?_)
  refine J_aload_n (pc := 5) X (j := 0) (i := 0) rfl rfl dX13_fault_5 ?_
  refine J_getI (pc := 6) X ly155 fl_13_189 dX13_fault_6 ?_
  obtain rfl := Option.some.inj hq
  exact J_iret (pc := 9) X dX13_fault_9
theorem m_X13_fault (h : Hp) (q : (Int32 × Hp)) (hq : f_X13_fault  h = some q) : ∀ l w, CT l w yX13_fault cX13_fault 1 (some .int) 1 [.inr (.inr 155)] h (some (.inl q.1), q.2) :=
  CT_of (L0 := [(0, .inr (.inr 155))]) (by decide) rfl (Nat.le_of_ble_eq_true rfl) (fun κ X => tf_X13_fault X  h q  hq)
theorem tf_X13_isSaying {κ : Kx} (X : OK κ cX13_isSaying 2 (some .boolean) "StruckWordsModel" 2) (x1 : Int32) (h : Hp) (q : (Int32 × Hp)) (hq : f_X13_isSaying x1 h = some q) : J κ 0 [(0, .inr (.inr 155)), (1, .inl x1)] [] h (some (.inl q.1), q.2) := by
  delta f_X13_isSaying at hq
  refine J_iload_n (pc := 0) X (j := 1) (i := 1) rfl rfl dX13_isSaying_0 ?_
  refine J_iconst (pc := 1) X (v := 0) (by decide) dX13_isSaying_1 ?_
  refine J_aload_n (pc := 2) X (j := 0) (i := 0) rfl rfl dX13_isSaying_2 ?_
  refine J_getF (pc := 3) X (b := 157) ly155 fl_13_33 rfl dX13_isSaying_3 ?_
  refine J_iconst (pc := 6) X (v := 2) (by decide) dX13_isSaying_6 ?_
  refine J_iaload (pc := 7) X ly157 (by decide) dX13_isSaying_7 ?_
  refine J_iconst (pc := 8) X (v := 1) (by decide) dX13_isSaying_8 ?_
  refine J_isub (pc := 9) X dX13_isSaying_9 ?_
  obtain ⟨v2, h1, hc, hq⟩ := bnd_e hq
  refine J_callS (pc := 10) (as := [.inl x1, .inl 0, .inl ((h.1 157 ((2 : Int32).toNatClampNeg)) - 1)]) (st := []) (st2 := [.inl v2]) (r1 := (some (.inl v2), h1)) (h2 := h1) (ky := 1) X dX13_isSaying_10 ca_X13_isIn cz_X13_isIn ml_13_204 (by decide) (m_X13_isIn _ _ _ _ _ hc) rfl rfl (Nat.le_of_ble_eq_true rfl) rfl rfl ?_
  obtain ⟨g3, hq⟩ := gd hq
  obtain rfl := Option.some.inj hq
  exact J_zret (pc := 13) X g3 dX13_isSaying_13
theorem m_X13_isSaying (x1 : Int32) (h : Hp) (q : (Int32 × Hp)) (hq : f_X13_isSaying x1 h = some q) : ∀ l w, CT l w yX13_isSaying cX13_isSaying 2 (some .boolean) 2 [.inr (.inr 155), .inl x1] h (some (.inl q.1), q.2) :=
  CT_of (L0 := [(0, .inr (.inr 155)), (1, .inl x1)]) (by decide) rfl (Nat.le_of_ble_eq_true rfl) (fun κ X => tf_X13_isSaying X x1 h q  hq)
theorem tF_X13_word_36 {κ : Kx} (X : OK κ cX13_word 5 (some .int) "StruckWordsModel" 3) (x1 : Int32) (x2 : Int32) (k65 : Int32 → Hp → Option (Int32 × Hp)) (self : Int32 → Int32 → Hp → Option (Int32 × Hp)) (x3 : Int32) (x4 : Int32) (h : Hp) (q : (Int32 × Hp)) (hk65 : ∀ (x3 : Int32) (h : Hp) (q : (Int32 × Hp)), k65 x3 h = some q → J κ 65 [(0, .inr (.inr 155)), (1, .inl x1), (2, .inl x2), (3, .inl x3)] [] h (some (.inl q.1), q.2)) (hself : ∀ (x3 : Int32) (x4 : Int32) (h : Hp) (q : (Int32 × Hp)), self x3 x4 h = some q → J κ 36 [(0, .inr (.inr 155)), (1, .inl x1), (2, .inl x2), (3, .inl x3), (4, .inl x4)] [] h (some (.inl q.1), q.2)) (hq : F_X13_word_36 x1 x2 k65 self x3 x4 h = some q) : J κ 36 [(0, .inr (.inr 155)), (1, .inl x1), (2, .inl x2), (3, .inl x3), (4, .inl x4)] [] h (some (.inl q.1), q.2) := by
  delta F_X13_word_36 at hq
  refine J_iload (pc := 36) X (j := 4) rfl dX13_word_36 ?_
  refine J_iconst (pc := 38) X (v := 5) (by decide) dX13_word_38 ?_
  refine J_icmp_ge (pc := 39) (tgt := 65) X dX13_word_39 rfl (fun c7 => ?_) (fun c7 => ?_)
  · have hq := ite_t hq c7
    refine J_sub [0, 1, 2, 3] rfl ?_
    exact hk65 _ _ _ hq
  · have hq := ite_f hq c7
    refine J_iload_n (pc := 42) X (j := 3) (i := 3) rfl rfl dX13_word_42 ?_
    refine J_aload_n (pc := 43) X (j := 0) (i := 0) rfl rfl dX13_word_43 ?_
    refine J_getF (pc := 44) X (b := 157) ly155 fl_13_33 rfl dX13_word_44 ?_
    refine J_bipush (pc := 47) X (v := 72) (by decide) dX13_word_47 ?_
    refine J_iconst (pc := 49) X (v := 5) (by decide) dX13_word_49 ?_
    refine J_iload_n (pc := 50) X (j := 1) (i := 1) rfl rfl dX13_word_50 ?_
    refine J_imul (pc := 51) X dX13_word_51 ?_
    refine J_iadd (pc := 52) X dX13_word_52 ?_
    refine J_iload (pc := 53) X (j := 4) rfl dX13_word_53 ?_
    refine J_iadd (pc := 55) X dX13_word_55 ?_
    obtain ⟨g8, hq⟩ := gd hq
    refine J_iaload (pc := 56) X ly157 g8 dX13_word_56 ?_
    refine J_iadd (pc := 57) X dX13_word_57 ?_
    refine J_ltI hq (fun v9 hq => ?_)
    refine J_istore_n (pc := 58) X (L' := [(3, .inl v9), (0, .inr (.inr 155)), (1, .inl x1), (2, .inl x2), (4, .inl x4)]) (i := 3) rfl (by decide) rfl dX13_word_58 ?_
    refine J_iinc (pc := 59) X (j := 4) (v := 1) (L' := [(4, .inl (x4 + 1)), (3, .inl v9), (0, .inr (.inr 155)), (1, .inl x1), (2, .inl x2)]) rfl (by decide) (by decide) rfl dX13_word_59 ?_
    refine J_goto (pc := 62) X (tgt := 36) dX13_word_62 rfl ?_
    refine J_sub [2, 3, 4, 1, 0] rfl ?_
    exact hself _ _ _ _ hq
theorem tL_X13_word_36 {κ : Kx} (X : OK κ cX13_word 5 (some .int) "StruckWordsModel" 3) (x1 : Int32) (x2 : Int32) (k65 : Int32 → Hp → Option (Int32 × Hp)) (N : Nat) (x3 : Int32) (x4 : Int32) (h : Hp) (q : (Int32 × Hp)) (hk65 : ∀ (x3 : Int32) (h : Hp) (q : (Int32 × Hp)), k65 x3 h = some q → J κ 65 [(0, .inr (.inr 155)), (1, .inl x1), (2, .inl x2), (3, .inl x3)] [] h (some (.inl q.1), q.2)) (hq : itr3 (F_X13_word_36 x1 x2 k65) N x3 x4 h = some q) : J κ 36 [(0, .inr (.inr 155)), (1, .inl x1), (2, .inl x2), (3, .inl x3), (4, .inl x4)] [] h (some (.inl q.1), q.2) :=
  itr3_ind (fun self hs x3 x4 h q hq => tF_X13_word_36 X x1 x2 k65 self x3 x4 h q hk65 hs hq) N x3 x4 h q hq
theorem tB_X13_word_23 {κ : Kx} (X : OK κ cX13_word 5 (some .int) "StruckWordsModel" 3) (x1 : Int32) (x2 : Int32) (t0 : Int32) (h : Hp) (q : (Int32 × Hp)) (hq : B_X13_word_23 x1 x2 t0 h = some q) : J κ 23 [(0, .inr (.inr 155)), (1, .inl x1), (2, .inl x2)] [.inl t0, .inr (.inr 155)] h (some (.inl q.1), q.2) := by
  delta B_X13_word_23 at hq
  obtain ⟨v5, h4, hc, hq⟩ := bnd_e hq
  refine J_callV (pc := 23) (as := [.inl t0]) (st := []) (st2 := [.inl v5]) (r1 := (some (.inl v5), h4)) (h2 := h4) (ky := 1) X dX13_word_23 ca_X13_throwsIf ci_X13_throwsIf cs_X13_throwsIf ml_13_275 (by decide) ly155 rfl rfl (m_X13_throwsIf _ _ _ hc) rfl rfl (Nat.le_of_ble_eq_true rfl) rfl rfl ?_
  refine J_if_eq (pc := 26) (tgt := 31) X dX13_word_26 rfl (fun c6 => ?_) (fun c6 => ?_)
  · have hq := ite_t hq c6
    refine J_iconst (pc := 31) X (v := 0) (by decide) dX13_word_31 ?_
    refine J_istore_n (pc := 32) X (L' := [(3, .inl 0), (0, .inr (.inr 155)), (1, .inl x1), (2, .inl x2)]) (i := 3) rfl (by decide) rfl dX13_word_32 ?_
    refine J_iconst (pc := 33) X (v := 0) (by decide) dX13_word_33 ?_
    refine J_istore (pc := 34) X (L' := [(4, .inl 0), (3, .inl 0), (0, .inr (.inr 155)), (1, .inl x1), (2, .inl x2)]) (by decide) rfl dX13_word_34 ?_
    refine J_sub [2, 3, 4, 1, 0] rfl ?_
    refine tL_X13_word_36 X _ _ _ N0 _ _ _ _ ?_ hq
    · intro v11 h10 q hq
      refine J_iload_n (pc := 65) X (j := 2) (i := 2) rfl rfl dX13_word_65 ?_
      refine J_if_ne (pc := 66) (tgt := 81) X dX13_word_66 rfl (fun c12 => ?_) (fun c12 => ?_)
      · have hq := ite_f hq c12
        refine J_iload_n (pc := 81) X (j := 2) (i := 2) rfl rfl dX13_word_81 ?_
        refine J_iconst (pc := 82) X (v := 1) (by decide) dX13_word_82 ?_
        refine J_icmp_ne (pc := 83) (tgt := 98) X dX13_word_83 rfl (fun c13 => ?_) (fun c13 => ?_)
        · have hq := ite_f hq c13
          refine J_iload_n (pc := 98) X (j := 2) (i := 2) rfl rfl dX13_word_98 ?_
          refine J_iconst (pc := 99) X (v := 2) (by decide) dX13_word_99 ?_
          refine J_icmp_ne (pc := 100) (tgt := 115) X dX13_word_100 rfl (fun c14 => ?_) (fun c14 => ?_)
          · have hq := ite_f hq c14
            refine J_iload_n (pc := 115) X (j := 2) (i := 2) rfl rfl dX13_word_115 ?_
            refine J_iconst (pc := 116) X (v := 3) (by decide) dX13_word_116 ?_
            refine J_icmp_ne (pc := 117) (tgt := 132) X dX13_word_117 rfl (fun c15 => ?_) (fun c15 => ?_)
            · have hq := ite_f hq c15
              refine J_iload_n (pc := 132) X (j := 3) (i := 3) rfl rfl dX13_word_132 ?_
              obtain rfl := Option.some.inj hq
              exact J_iret (pc := 133) X dX13_word_133
            · have hq := ite_t hq c15
              refine J_aload_n (pc := 120) X (j := 0) (i := 0) rfl rfl dX13_word_120 ?_
              refine J_getF (pc := 121) X (b := 157) ly155 fl_13_33 rfl dX13_word_121 ?_
              refine J_bipush (pc := 124) X (v := 64) (by decide) dX13_word_124 ?_
              refine J_iload_n (pc := 126) X (j := 1) (i := 1) rfl rfl dX13_word_126 ?_
              refine J_iadd (pc := 127) X dX13_word_127 ?_
              obtain ⟨g16, hq⟩ := gd hq
              refine J_iaload (pc := 128) X ly157 g16 dX13_word_128 ?_
              refine J_goto (pc := 129) X (tgt := 133) dX13_word_129 rfl ?_
              obtain rfl := Option.some.inj hq
              exact J_iret (pc := 133) X dX13_word_133
          · have hq := ite_t hq c14
            refine J_aload_n (pc := 103) X (j := 0) (i := 0) rfl rfl dX13_word_103 ?_
            refine J_getF (pc := 104) X (b := 157) ly155 fl_13_33 rfl dX13_word_104 ?_
            refine J_bipush (pc := 107) X (v := 56) (by decide) dX13_word_107 ?_
            refine J_iload_n (pc := 109) X (j := 1) (i := 1) rfl rfl dX13_word_109 ?_
            refine J_iadd (pc := 110) X dX13_word_110 ?_
            obtain ⟨g17, hq⟩ := gd hq
            refine J_iaload (pc := 111) X ly157 g17 dX13_word_111 ?_
            refine J_goto (pc := 112) X (tgt := 133) dX13_word_112 rfl ?_
            obtain rfl := Option.some.inj hq
            exact J_iret (pc := 133) X dX13_word_133
        · have hq := ite_t hq c13
          refine J_aload_n (pc := 86) X (j := 0) (i := 0) rfl rfl dX13_word_86 ?_
          refine J_getF (pc := 87) X (b := 157) ly155 fl_13_33 rfl dX13_word_87 ?_
          refine J_bipush (pc := 90) X (v := 48) (by decide) dX13_word_90 ?_
          refine J_iload_n (pc := 92) X (j := 1) (i := 1) rfl rfl dX13_word_92 ?_
          refine J_iadd (pc := 93) X dX13_word_93 ?_
          obtain ⟨g18, hq⟩ := gd hq
          refine J_iaload (pc := 94) X ly157 g18 dX13_word_94 ?_
          refine J_goto (pc := 95) X (tgt := 133) dX13_word_95 rfl ?_
          obtain rfl := Option.some.inj hq
          exact J_iret (pc := 133) X dX13_word_133
      · have hq := ite_t hq c12
        refine J_aload_n (pc := 69) X (j := 0) (i := 0) rfl rfl dX13_word_69 ?_
        refine J_getF (pc := 70) X (b := 157) ly155 fl_13_33 rfl dX13_word_70 ?_
        refine J_bipush (pc := 73) X (v := 40) (by decide) dX13_word_73 ?_
        refine J_iload_n (pc := 75) X (j := 1) (i := 1) rfl rfl dX13_word_75 ?_
        refine J_iadd (pc := 76) X dX13_word_76 ?_
        obtain ⟨g19, hq⟩ := gd hq
        refine J_iaload (pc := 77) X ly157 g19 dX13_word_77 ?_
        refine J_goto (pc := 78) X (tgt := 133) dX13_word_78 rfl ?_
        obtain rfl := Option.some.inj hq
        exact J_iret (pc := 133) X dX13_word_133
  · have hq := ite_f hq c6
    refine J_iconst (pc := 29) X (v := 0) (by decide) dX13_word_29 ?_
    obtain rfl := Option.some.inj hq
    exact J_iret (pc := 30) X dX13_word_30
theorem tf_X13_word {κ : Kx} (X : OK κ cX13_word 5 (some .int) "StruckWordsModel" 3) (x1 : Int32) (x2 : Int32) (h : Hp) (q : (Int32 × Hp)) (hq : f_X13_word x1 x2 h = some q) : J κ 0 [(0, .inr (.inr 155)), (1, .inl x1), (2, .inl x2)] [] h (some (.inl q.1), q.2) := by
  delta f_X13_word at hq
  refine J_aload_n (pc := 0) X (j := 0) (i := 0) rfl rfl dX13_word_0 ?_
  refine J_aload_n (pc := 1) X (j := 0) (i := 0) rfl rfl dX13_word_1 ?_
  refine J_iload_n (pc := 2) X (j := 1) (i := 1) rfl rfl dX13_word_2 ?_
  obtain ⟨v2, h1, hc, hq⟩ := bnd_e hq
  refine J_callV (pc := 3) (as := [.inl x1]) (st := [.inr (.inr 155)]) (st2 := [.inl v2, .inr (.inr 155)]) (r1 := (some (.inl v2), h1)) (h2 := h1) (ky := 2) X dX13_word_3 ca_X13_isSaying ci_X13_isSaying cs_X13_isSaying ml_13_272 (by decide) ly155 rfl rfl (m_X13_isSaying _ _ _ hc) rfl rfl (Nat.le_of_ble_eq_true rfl) rfl rfl ?_
  refine J_if_eq (pc := 6) (tgt := 18) X dX13_word_6 rfl (fun c3 => ?_) (fun c3 => ?_)
  · have hq := ite_t hq c3
    refine J_iconst (pc := 18) X (v := 1) (by decide) dX13_word_18 ?_
    refine J_goto (pc := 19) X (tgt := 23) dX13_word_19 rfl ?_
    exact tB_X13_word_23 X _ _ _ _ _ hq
  · have hq := ite_f hq c3
    refine J_iload_n (pc := 9) X (j := 2) (i := 2) rfl rfl dX13_word_9 ?_
    refine J_iconst (pc := 10) X (v := 0) (by decide) dX13_word_10 ?_
    refine J_iconst (pc := 11) X (v := 4) (by decide) dX13_word_11 ?_
    obtain ⟨v21, h20, hc, hq⟩ := bnd_e hq
    refine J_callS (pc := 12) (as := [.inl x2, .inl 0, .inl 4]) (st := [.inr (.inr 155)]) (st2 := [.inl v21, .inr (.inr 155)]) (r1 := (some (.inl v21), h20)) (h2 := h20) (ky := 1) X dX13_word_12 ca_X13_isIn cz_X13_isIn ml_13_204 (by decide) (m_X13_isIn _ _ _ _ _ hc) rfl rfl (Nat.le_of_ble_eq_true rfl) rfl rfl ?_
    refine J_if_ne (pc := 15) (tgt := 22) X dX13_word_15 rfl (fun c22 => ?_) (fun c22 => ?_)
    · have hq := ite_f hq c22
      refine J_iconst (pc := 22) X (v := 0) (by decide) dX13_word_22 ?_
      exact tB_X13_word_23 X _ _ _ _ _ hq
    · have hq := ite_t hq c22
      refine J_iconst (pc := 18) X (v := 1) (by decide) dX13_word_18 ?_
      refine J_goto (pc := 19) X (tgt := 23) dX13_word_19 rfl ?_
      exact tB_X13_word_23 X _ _ _ _ _ hq
theorem m_X13_word (x1 : Int32) (x2 : Int32) (h : Hp) (q : (Int32 × Hp)) (hq : f_X13_word x1 x2 h = some q) : ∀ l w, CT l w yX13_word cX13_word 5 (some .int) 3 [.inr (.inr 155), .inl x1, .inl x2] h (some (.inl q.1), q.2) :=
  CT_of (L0 := [(0, .inr (.inr 155)), (1, .inl x1), (2, .inl x2)]) (by decide) rfl (Nat.le_of_ble_eq_true rfl) (fun κ X => tf_X13_word X x1 x2 h q  hq)
theorem tf_X13_becomes {κ : Kx} (X : OK κ cX13_becomes 4 (some .int) "StruckWordsModel" 3) (x1 : Int32) (x2 : Int32) (x3 : Int32) (h : Hp) (q : (Int32 × Hp)) (hq : f_X13_becomes x1 x2 x3 h = some q) : J κ 0 [(0, .inr (.inr 155)), (1, .inl x1), (2, .inl x2), (3, .inl x3)] [] h (some (.inl q.1), q.2) := by
  delta f_X13_becomes at hq
  refine J_aload_n (pc := 0) X (j := 0) (i := 0) rfl rfl dX13_becomes_0 ?_
  refine J_iconst (pc := 1) X (v := 0) (by decide) dX13_becomes_1 ?_
  refine J_putI (pc := 2) X ly155 fp_13_1 dX13_becomes_2 ?_
  refine J_ltH hq (fun h1 hq => ?_)
  refine J_aload_n (pc := 5) X (j := 0) (i := 0) rfl rfl dX13_becomes_5 ?_
  refine J_iload_n (pc := 6) X (j := 1) (i := 1) rfl rfl dX13_becomes_6 ?_
  obtain ⟨v3, h2, hc, hq⟩ := bnd_e hq
  refine J_callV (pc := 7) (as := [.inl x1]) (st := []) (st2 := [.inl v3]) (r1 := (some (.inl v3), h2)) (h2 := h2) (ky := 2) X dX13_becomes_7 ca_X13_isSaying ci_X13_isSaying cs_X13_isSaying ml_13_272 (by decide) ly155 rfl rfl (m_X13_isSaying _ _ _ hc) rfl rfl (Nat.le_of_ble_eq_true rfl) rfl rfl ?_
  refine J_if_eq (pc := 10) (tgt := 77) X dX13_becomes_10 rfl (fun c4 => ?_) (fun c4 => ?_)
  · have hq := ite_t hq c4
    refine J_iconst (pc := 77) X (v := (-1)) (by decide) dX13_becomes_77 ?_
    obtain rfl := Option.some.inj hq
    exact J_iret (pc := 78) X dX13_becomes_78
  · have hq := ite_f hq c4
    refine J_iload_n (pc := 13) X (j := 2) (i := 2) rfl rfl dX13_becomes_13 ?_
    refine J_iconst (pc := 14) X (v := 0) (by decide) dX13_becomes_14 ?_
    refine J_aload_n (pc := 15) X (j := 0) (i := 0) rfl rfl dX13_becomes_15 ?_
    refine J_getF (pc := 16) X (b := 157) ly155 fl_13_33 rfl dX13_becomes_16 ?_
    refine J_iconst (pc := 19) X (v := 0) (by decide) dX13_becomes_19 ?_
    refine J_iaload (pc := 20) X ly157 (by decide) dX13_becomes_20 ?_
    refine J_iconst (pc := 21) X (v := 1) (by decide) dX13_becomes_21 ?_
    refine J_isub (pc := 22) X dX13_becomes_22 ?_
    obtain ⟨v6, h5, hc, hq⟩ := bnd_e hq
    refine J_callS (pc := 23) (as := [.inl x2, .inl 0, .inl ((h2.1 157 ((0 : Int32).toNatClampNeg)) - 1)]) (st := []) (st2 := [.inl v6]) (r1 := (some (.inl v6), h5)) (h2 := h5) (ky := 1) X dX13_becomes_23 ca_X13_isIn cz_X13_isIn ml_13_204 (by decide) (m_X13_isIn _ _ _ _ _ hc) rfl rfl (Nat.le_of_ble_eq_true rfl) rfl rfl ?_
    refine J_if_eq (pc := 26) (tgt := 77) X dX13_becomes_26 rfl (fun c7 => ?_) (fun c7 => ?_)
    · have hq := ite_t hq c7
      refine J_iconst (pc := 77) X (v := (-1)) (by decide) dX13_becomes_77 ?_
      obtain rfl := Option.some.inj hq
      exact J_iret (pc := 78) X dX13_becomes_78
    · have hq := ite_f hq c7
      refine J_iload_n (pc := 29) X (j := 3) (i := 3) rfl rfl dX13_becomes_29 ?_
      refine J_iconst (pc := 30) X (v := 0) (by decide) dX13_becomes_30 ?_
      refine J_bipush (pc := 31) X (v := 7) (by decide) dX13_becomes_31 ?_
      obtain ⟨v9, h8, hc, hq⟩ := bnd_e hq
      refine J_callS (pc := 33) (as := [.inl x3, .inl 0, .inl 7]) (st := []) (st2 := [.inl v9]) (r1 := (some (.inl v9), h8)) (h2 := h8) (ky := 1) X dX13_becomes_33 ca_X13_isIn cz_X13_isIn ml_13_204 (by decide) (m_X13_isIn _ _ _ _ _ hc) rfl rfl (Nat.le_of_ble_eq_true rfl) rfl rfl ?_
      refine J_if_eq (pc := 36) (tgt := 77) X dX13_becomes_36 rfl (fun c10 => ?_) (fun c10 => ?_)
      · have hq := ite_t hq c10
        refine J_iconst (pc := 77) X (v := (-1)) (by decide) dX13_becomes_77 ?_
        obtain rfl := Option.some.inj hq
        exact J_iret (pc := 78) X dX13_becomes_78
      · have hq := ite_f hq c10
        refine J_aload_n (pc := 39) X (j := 0) (i := 0) rfl rfl dX13_becomes_39 ?_
        refine J_getF (pc := 40) X (b := 157) ly155 fl_13_33 rfl dX13_becomes_40 ?_
        refine J_bipush (pc := 43) X (v := 72) (by decide) dX13_becomes_43 ?_
        refine J_iconst (pc := 45) X (v := 5) (by decide) dX13_becomes_45 ?_
        refine J_iload_n (pc := 46) X (j := 1) (i := 1) rfl rfl dX13_becomes_46 ?_
        refine J_imul (pc := 47) X dX13_becomes_47 ?_
        refine J_iadd (pc := 48) X dX13_becomes_48 ?_
        refine J_iload_n (pc := 49) X (j := 2) (i := 2) rfl rfl dX13_becomes_49 ?_
        refine J_iadd (pc := 50) X dX13_becomes_50 ?_
        obtain ⟨g11, hq⟩ := gd hq
        refine J_iaload (pc := 51) X ly157 g11 dX13_becomes_51 ?_
        refine J_iconst (pc := 52) X (v := 1) (by decide) dX13_becomes_52 ?_
        refine J_icmp_ne (pc := 53) (tgt := 77) X dX13_becomes_53 rfl (fun c12 => ?_) (fun c12 => ?_)
        · have hq := ite_f hq c12
          refine J_iconst (pc := 77) X (v := (-1)) (by decide) dX13_becomes_77 ?_
          obtain rfl := Option.some.inj hq
          exact J_iret (pc := 78) X dX13_becomes_78
        · have hq := ite_t hq c12
          refine J_aload_n (pc := 56) X (j := 0) (i := 0) rfl rfl dX13_becomes_56 ?_
          refine J_getF (pc := 57) X (b := 157) ly155 fl_13_33 rfl dX13_becomes_57 ?_
          refine J_bipush (pc := 60) X (v := 112) (by decide) dX13_becomes_60 ?_
          refine J_bipush (pc := 62) X (v := 8) (by decide) dX13_becomes_62 ?_
          refine J_iconst (pc := 64) X (v := 5) (by decide) dX13_becomes_64 ?_
          refine J_iload_n (pc := 65) X (j := 1) (i := 1) rfl rfl dX13_becomes_65 ?_
          refine J_imul (pc := 66) X dX13_becomes_66 ?_
          refine J_iload_n (pc := 67) X (j := 2) (i := 2) rfl rfl dX13_becomes_67 ?_
          refine J_iadd (pc := 68) X dX13_becomes_68 ?_
          refine J_imul (pc := 69) X dX13_becomes_69 ?_
          refine J_iadd (pc := 70) X dX13_becomes_70 ?_
          refine J_iload_n (pc := 71) X (j := 3) (i := 3) rfl rfl dX13_becomes_71 ?_
          refine J_iadd (pc := 72) X dX13_becomes_72 ?_
          obtain ⟨g13, hq⟩ := gd hq
          refine J_iaload (pc := 73) X ly157 g13 dX13_becomes_73 ?_
          refine J_goto (pc := 74) X (tgt := 78) dX13_becomes_74 rfl ?_
          obtain rfl := Option.some.inj hq
          exact J_iret (pc := 78) X dX13_becomes_78
theorem m_X13_becomes (x1 : Int32) (x2 : Int32) (x3 : Int32) (h : Hp) (q : (Int32 × Hp)) (hq : f_X13_becomes x1 x2 x3 h = some q) : ∀ l w, CT l w yX13_becomes cX13_becomes 4 (some .int) 3 [.inr (.inr 155), .inl x1, .inl x2, .inl x3] h (some (.inl q.1), q.2) :=
  CT_of (L0 := [(0, .inr (.inr 155)), (1, .inl x1), (2, .inl x2), (3, .inl x3)]) (by decide) rfl (Nat.le_of_ble_eq_true rfl) (fun κ X => tf_X13_becomes X x1 x2 x3 h q  hq)
theorem tF_X13_alike_87 {κ : Kx} (X : OK κ cX13_alike 7 (some .int) "StruckWordsModel" 3) (x1 : Int32) (x2 : Int32) (x3 : Int32) (x5 : Int32) (k173 : Int32 → Hp → Option (Int32 × Hp)) (self : Int32 → Int32 → Hp → Option (Int32 × Hp)) (x4 : Int32) (x6 : Int32) (h : Hp) (q : (Int32 × Hp)) (hk173 : ∀ (x4 : Int32) (h : Hp) (q : (Int32 × Hp)), k173 x4 h = some q → J κ 173 [(0, .inr (.inr 155)), (1, .inl x1), (2, .inl x2), (3, .inl x3), (4, .inl x4), (5, .inl x5)] [] h (some (.inl q.1), q.2)) (hself : ∀ (x4 : Int32) (x6 : Int32) (h : Hp) (q : (Int32 × Hp)), self x4 x6 h = some q → J κ 87 [(0, .inr (.inr 155)), (1, .inl x1), (2, .inl x2), (3, .inl x3), (4, .inl x4), (5, .inl x5), (6, .inl x6)] [] h (some (.inl q.1), q.2)) (hq : F_X13_alike_87 x1 x2 x3 x5 k173 self x4 x6 h = some q) : J κ 87 [(0, .inr (.inr 155)), (1, .inl x1), (2, .inl x2), (3, .inl x3), (4, .inl x4), (5, .inl x5), (6, .inl x6)] [] h (some (.inl q.1), q.2) := by
  delta F_X13_alike_87 at hq
  refine J_iload (pc := 87) X (j := 6) rfl dX13_alike_87 ?_
  refine J_bipush (pc := 89) X (v := 8) (by decide) dX13_alike_89 ?_
  refine J_icmp_ge (pc := 91) (tgt := 173) X dX13_alike_91 rfl (fun c8 => ?_) (fun c8 => ?_)
  · have hq := ite_t hq c8
    refine J_sub [0, 1, 2, 3, 4, 5] rfl ?_
    exact hk173 _ _ _ hq
  · have hq := ite_f hq c8
    refine J_aload_n (pc := 94) X (j := 0) (i := 0) rfl rfl dX13_alike_94 ?_
    refine J_getF (pc := 95) X (b := 157) ly155 fl_13_33 rfl dX13_alike_95 ?_
    refine J_bipush (pc := 98) X (v := 72) (by decide) dX13_alike_98 ?_
    refine J_iconst (pc := 100) X (v := 5) (by decide) dX13_alike_100 ?_
    refine J_iload_n (pc := 101) X (j := 1) (i := 1) rfl rfl dX13_alike_101 ?_
    refine J_imul (pc := 102) X dX13_alike_102 ?_
    refine J_iadd (pc := 103) X dX13_alike_103 ?_
    refine J_iload (pc := 104) X (j := 5) rfl dX13_alike_104 ?_
    refine J_iadd (pc := 106) X dX13_alike_106 ?_
    obtain ⟨g9, hq⟩ := gd hq
    refine J_iaload (pc := 107) X ly157 g9 dX13_alike_107 ?_
    refine J_iconst (pc := 108) X (v := 1) (by decide) dX13_alike_108 ?_
    refine J_icmp_ne (pc := 109) (tgt := 173) X dX13_alike_109 rfl (fun c10 => ?_) (fun c10 => ?_)
    · have hq := ite_f hq c10
      refine J_sub [0, 1, 2, 3, 4, 5] rfl ?_
      exact hk173 _ _ _ hq
    · have hq := ite_t hq c10
      refine J_iload (pc := 112) X (j := 4) rfl dX13_alike_112 ?_
      refine J_if_eq (pc := 114) (tgt := 164) X dX13_alike_114 rfl (fun c11 => ?_) (fun c11 => ?_)
      · have hq := ite_t hq c11
        refine J_iconst (pc := 164) X (v := 0) (by decide) dX13_alike_164 ?_
        refine J_istore (pc := 165) X (L' := [(4, .inl 0), (0, .inr (.inr 155)), (1, .inl x1), (2, .inl x2), (3, .inl x3), (5, .inl x5), (6, .inl x6)]) (by decide) rfl dX13_alike_165 ?_
        refine J_iinc (pc := 167) X (j := 6) (v := 1) (L' := [(6, .inl (x6 + 1)), (4, .inl 0), (0, .inr (.inr 155)), (1, .inl x1), (2, .inl x2), (3, .inl x3), (5, .inl x5)]) rfl (by decide) (by decide) rfl dX13_alike_167 ?_
        refine J_goto (pc := 170) X (tgt := 87) dX13_alike_170 rfl ?_
        refine J_sub [2, 3, 4, 5, 1, 6, 0] rfl ?_
        exact hself _ _ _ _ hq
      · have hq := ite_f hq c11
        refine J_aload_n (pc := 117) X (j := 0) (i := 0) rfl rfl dX13_alike_117 ?_
        refine J_getF (pc := 118) X (b := 157) ly155 fl_13_33 rfl dX13_alike_118 ?_
        refine J_bipush (pc := 121) X (v := 112) (by decide) dX13_alike_121 ?_
        refine J_bipush (pc := 123) X (v := 8) (by decide) dX13_alike_123 ?_
        refine J_iconst (pc := 125) X (v := 5) (by decide) dX13_alike_125 ?_
        refine J_iload_n (pc := 126) X (j := 1) (i := 1) rfl rfl dX13_alike_126 ?_
        refine J_imul (pc := 127) X dX13_alike_127 ?_
        refine J_iload (pc := 128) X (j := 5) rfl dX13_alike_128 ?_
        refine J_iadd (pc := 130) X dX13_alike_130 ?_
        refine J_imul (pc := 131) X dX13_alike_131 ?_
        refine J_iadd (pc := 132) X dX13_alike_132 ?_
        refine J_iload (pc := 133) X (j := 6) rfl dX13_alike_133 ?_
        refine J_iadd (pc := 135) X dX13_alike_135 ?_
        obtain ⟨g12, hq⟩ := gd hq
        refine J_iaload (pc := 136) X ly157 g12 dX13_alike_136 ?_
        refine J_aload_n (pc := 137) X (j := 0) (i := 0) rfl rfl dX13_alike_137 ?_
        refine J_getF (pc := 138) X (b := 157) ly155 fl_13_33 rfl dX13_alike_138 ?_
        refine J_bipush (pc := 141) X (v := 112) (by decide) dX13_alike_141 ?_
        refine J_bipush (pc := 143) X (v := 8) (by decide) dX13_alike_143 ?_
        refine J_iconst (pc := 145) X (v := 5) (by decide) dX13_alike_145 ?_
        refine J_iload_n (pc := 146) X (j := 3) (i := 3) rfl rfl dX13_alike_146 ?_
        refine J_imul (pc := 147) X dX13_alike_147 ?_
        refine J_iload (pc := 148) X (j := 5) rfl dX13_alike_148 ?_
        refine J_iadd (pc := 150) X dX13_alike_150 ?_
        refine J_imul (pc := 151) X dX13_alike_151 ?_
        refine J_iadd (pc := 152) X dX13_alike_152 ?_
        refine J_iload (pc := 153) X (j := 6) rfl dX13_alike_153 ?_
        refine J_iadd (pc := 155) X dX13_alike_155 ?_
        obtain ⟨g13, hq⟩ := gd hq
        refine J_iaload (pc := 156) X ly157 g13 dX13_alike_156 ?_
        refine J_icmp_ne (pc := 157) (tgt := 164) X dX13_alike_157 rfl (fun c14 => ?_) (fun c14 => ?_)
        · have hq := ite_f hq c14
          refine J_iconst (pc := 164) X (v := 0) (by decide) dX13_alike_164 ?_
          refine J_istore (pc := 165) X (L' := [(4, .inl 0), (0, .inr (.inr 155)), (1, .inl x1), (2, .inl x2), (3, .inl x3), (5, .inl x5), (6, .inl x6)]) (by decide) rfl dX13_alike_165 ?_
          refine J_iinc (pc := 167) X (j := 6) (v := 1) (L' := [(6, .inl (x6 + 1)), (4, .inl 0), (0, .inr (.inr 155)), (1, .inl x1), (2, .inl x2), (3, .inl x3), (5, .inl x5)]) rfl (by decide) (by decide) rfl dX13_alike_167 ?_
          refine J_goto (pc := 170) X (tgt := 87) dX13_alike_170 rfl ?_
          refine J_sub [2, 3, 4, 5, 1, 6, 0] rfl ?_
          exact hself _ _ _ _ hq
        · have hq := ite_t hq c14
          refine J_iconst (pc := 160) X (v := 1) (by decide) dX13_alike_160 ?_
          refine J_goto (pc := 161) X (tgt := 165) dX13_alike_161 rfl ?_
          refine J_istore (pc := 165) X (L' := [(4, .inl 1), (0, .inr (.inr 155)), (1, .inl x1), (2, .inl x2), (3, .inl x3), (5, .inl x5), (6, .inl x6)]) (by decide) rfl dX13_alike_165 ?_
          refine J_iinc (pc := 167) X (j := 6) (v := 1) (L' := [(6, .inl (x6 + 1)), (4, .inl 1), (0, .inr (.inr 155)), (1, .inl x1), (2, .inl x2), (3, .inl x3), (5, .inl x5)]) rfl (by decide) (by decide) rfl dX13_alike_167 ?_
          refine J_goto (pc := 170) X (tgt := 87) dX13_alike_170 rfl ?_
          refine J_sub [2, 3, 4, 5, 1, 6, 0] rfl ?_
          exact hself _ _ _ _ hq
theorem tL_X13_alike_87 {κ : Kx} (X : OK κ cX13_alike 7 (some .int) "StruckWordsModel" 3) (x1 : Int32) (x2 : Int32) (x3 : Int32) (x5 : Int32) (k173 : Int32 → Hp → Option (Int32 × Hp)) (N : Nat) (x4 : Int32) (x6 : Int32) (h : Hp) (q : (Int32 × Hp)) (hk173 : ∀ (x4 : Int32) (h : Hp) (q : (Int32 × Hp)), k173 x4 h = some q → J κ 173 [(0, .inr (.inr 155)), (1, .inl x1), (2, .inl x2), (3, .inl x3), (4, .inl x4), (5, .inl x5)] [] h (some (.inl q.1), q.2)) (hq : itr3 (F_X13_alike_87 x1 x2 x3 x5 k173) N x4 x6 h = some q) : J κ 87 [(0, .inr (.inr 155)), (1, .inl x1), (2, .inl x2), (3, .inl x3), (4, .inl x4), (5, .inl x5), (6, .inl x6)] [] h (some (.inl q.1), q.2) :=
  itr3_ind (fun self hs x4 x6 h q hq => tF_X13_alike_87 X x1 x2 x3 x5 k173 self x4 x6 h q hk173 hs hq) N x4 x6 h q hq
theorem tF_X13_alike_35 {κ : Kx} (X : OK κ cX13_alike 7 (some .int) "StruckWordsModel" 3) (x1 : Int32) (x2 : Int32) (x3 : Int32) (k179 : Int32 → Hp → Option (Int32 × Hp)) (self : Int32 → Int32 → Hp → Option (Int32 × Hp)) (x4 : Int32) (x5 : Int32) (h : Hp) (q : (Int32 × Hp)) (hk179 : ∀ (x4 : Int32) (h : Hp) (q : (Int32 × Hp)), k179 x4 h = some q → J κ 179 [(0, .inr (.inr 155)), (1, .inl x1), (2, .inl x2), (3, .inl x3), (4, .inl x4)] [] h (some (.inl q.1), q.2)) (hself : ∀ (x4 : Int32) (x5 : Int32) (h : Hp) (q : (Int32 × Hp)), self x4 x5 h = some q → J κ 35 [(0, .inr (.inr 155)), (1, .inl x1), (2, .inl x2), (3, .inl x3), (4, .inl x4), (5, .inl x5)] [] h (some (.inl q.1), q.2)) (hq : F_X13_alike_35 x1 x2 x3 k179 self x4 x5 h = some q) : J κ 35 [(0, .inr (.inr 155)), (1, .inl x1), (2, .inl x2), (3, .inl x3), (4, .inl x4), (5, .inl x5)] [] h (some (.inl q.1), q.2) := by
  delta F_X13_alike_35 at hq
  refine J_iload (pc := 35) X (j := 5) rfl dX13_alike_35 ?_
  refine J_iconst (pc := 37) X (v := 5) (by decide) dX13_alike_37 ?_
  refine J_icmp_ge (pc := 38) (tgt := 179) X dX13_alike_38 rfl (fun c6 => ?_) (fun c6 => ?_)
  · have hq := ite_t hq c6
    refine J_sub [0, 1, 2, 3, 4] rfl ?_
    exact hk179 _ _ _ hq
  · have hq := ite_f hq c6
    refine J_iload (pc := 41) X (j := 4) rfl dX13_alike_41 ?_
    refine J_if_eq (pc := 43) (tgt := 81) X dX13_alike_43 rfl (fun c7 => ?_) (fun c7 => ?_)
    · have hq := ite_t hq c7
      refine J_iconst (pc := 81) X (v := 0) (by decide) dX13_alike_81 ?_
      refine J_istore (pc := 82) X (L' := [(4, .inl 0), (0, .inr (.inr 155)), (1, .inl x1), (2, .inl x2), (3, .inl x3), (5, .inl x5)]) (by decide) rfl dX13_alike_82 ?_
      refine J_iconst (pc := 84) X (v := 0) (by decide) dX13_alike_84 ?_
      refine J_istore (pc := 85) X (L' := [(6, .inl 0), (4, .inl 0), (0, .inr (.inr 155)), (1, .inl x1), (2, .inl x2), (3, .inl x3), (5, .inl x5)]) (by decide) rfl dX13_alike_85 ?_
      refine J_sub [2, 3, 4, 5, 1, 6, 0] rfl ?_
      refine tL_X13_alike_87 X _ _ _ _ _ N0 _ _ _ _ ?_ hq
      · intro v16 h15 q hq
        refine J_iinc (pc := 173) X (j := 5) (v := 1) (L' := [(5, .inl (x5 + 1)), (0, .inr (.inr 155)), (1, .inl x1), (2, .inl x2), (3, .inl x3), (4, .inl v16)]) rfl (by decide) (by decide) rfl dX13_alike_173 ?_
        refine J_goto (pc := 176) X (tgt := 35) dX13_alike_176 rfl ?_
        refine J_sub [1, 2, 3, 4, 5, 0] rfl ?_
        exact hself _ _ _ _ hq
    · have hq := ite_f hq c7
      refine J_aload_n (pc := 46) X (j := 0) (i := 0) rfl rfl dX13_alike_46 ?_
      refine J_getF (pc := 47) X (b := 157) ly155 fl_13_33 rfl dX13_alike_47 ?_
      refine J_bipush (pc := 50) X (v := 72) (by decide) dX13_alike_50 ?_
      refine J_iconst (pc := 52) X (v := 5) (by decide) dX13_alike_52 ?_
      refine J_iload_n (pc := 53) X (j := 1) (i := 1) rfl rfl dX13_alike_53 ?_
      refine J_imul (pc := 54) X dX13_alike_54 ?_
      refine J_iadd (pc := 55) X dX13_alike_55 ?_
      refine J_iload (pc := 56) X (j := 5) rfl dX13_alike_56 ?_
      refine J_iadd (pc := 58) X dX13_alike_58 ?_
      obtain ⟨g17, hq⟩ := gd hq
      refine J_iaload (pc := 59) X ly157 g17 dX13_alike_59 ?_
      refine J_aload_n (pc := 60) X (j := 0) (i := 0) rfl rfl dX13_alike_60 ?_
      refine J_getF (pc := 61) X (b := 157) ly155 fl_13_33 rfl dX13_alike_61 ?_
      refine J_bipush (pc := 64) X (v := 72) (by decide) dX13_alike_64 ?_
      refine J_iconst (pc := 66) X (v := 5) (by decide) dX13_alike_66 ?_
      refine J_iload_n (pc := 67) X (j := 3) (i := 3) rfl rfl dX13_alike_67 ?_
      refine J_imul (pc := 68) X dX13_alike_68 ?_
      refine J_iadd (pc := 69) X dX13_alike_69 ?_
      refine J_iload (pc := 70) X (j := 5) rfl dX13_alike_70 ?_
      refine J_iadd (pc := 72) X dX13_alike_72 ?_
      obtain ⟨g18, hq⟩ := gd hq
      refine J_iaload (pc := 73) X ly157 g18 dX13_alike_73 ?_
      refine J_icmp_ne (pc := 74) (tgt := 81) X dX13_alike_74 rfl (fun c19 => ?_) (fun c19 => ?_)
      · have hq := ite_f hq c19
        refine J_iconst (pc := 81) X (v := 0) (by decide) dX13_alike_81 ?_
        refine J_istore (pc := 82) X (L' := [(4, .inl 0), (0, .inr (.inr 155)), (1, .inl x1), (2, .inl x2), (3, .inl x3), (5, .inl x5)]) (by decide) rfl dX13_alike_82 ?_
        refine J_iconst (pc := 84) X (v := 0) (by decide) dX13_alike_84 ?_
        refine J_istore (pc := 85) X (L' := [(6, .inl 0), (4, .inl 0), (0, .inr (.inr 155)), (1, .inl x1), (2, .inl x2), (3, .inl x3), (5, .inl x5)]) (by decide) rfl dX13_alike_85 ?_
        refine J_sub [2, 3, 4, 5, 1, 6, 0] rfl ?_
        refine tL_X13_alike_87 X _ _ _ _ _ N0 _ _ _ _ ?_ hq
        · intro v21 h20 q hq
          refine J_iinc (pc := 173) X (j := 5) (v := 1) (L' := [(5, .inl (x5 + 1)), (0, .inr (.inr 155)), (1, .inl x1), (2, .inl x2), (3, .inl x3), (4, .inl v21)]) rfl (by decide) (by decide) rfl dX13_alike_173 ?_
          refine J_goto (pc := 176) X (tgt := 35) dX13_alike_176 rfl ?_
          refine J_sub [1, 2, 3, 4, 5, 0] rfl ?_
          exact hself _ _ _ _ hq
      · have hq := ite_t hq c19
        refine J_iconst (pc := 77) X (v := 1) (by decide) dX13_alike_77 ?_
        refine J_goto (pc := 78) X (tgt := 82) dX13_alike_78 rfl ?_
        refine J_istore (pc := 82) X (L' := [(4, .inl 1), (0, .inr (.inr 155)), (1, .inl x1), (2, .inl x2), (3, .inl x3), (5, .inl x5)]) (by decide) rfl dX13_alike_82 ?_
        refine J_iconst (pc := 84) X (v := 0) (by decide) dX13_alike_84 ?_
        refine J_istore (pc := 85) X (L' := [(6, .inl 0), (4, .inl 1), (0, .inr (.inr 155)), (1, .inl x1), (2, .inl x2), (3, .inl x3), (5, .inl x5)]) (by decide) rfl dX13_alike_85 ?_
        refine J_sub [2, 3, 4, 5, 1, 6, 0] rfl ?_
        refine tL_X13_alike_87 X _ _ _ _ _ N0 _ _ _ _ ?_ hq
        · intro v23 h22 q hq
          refine J_iinc (pc := 173) X (j := 5) (v := 1) (L' := [(5, .inl (x5 + 1)), (0, .inr (.inr 155)), (1, .inl x1), (2, .inl x2), (3, .inl x3), (4, .inl v23)]) rfl (by decide) (by decide) rfl dX13_alike_173 ?_
          refine J_goto (pc := 176) X (tgt := 35) dX13_alike_176 rfl ?_
          refine J_sub [1, 2, 3, 4, 5, 0] rfl ?_
          exact hself _ _ _ _ hq
theorem tL_X13_alike_35 {κ : Kx} (X : OK κ cX13_alike 7 (some .int) "StruckWordsModel" 3) (x1 : Int32) (x2 : Int32) (x3 : Int32) (k179 : Int32 → Hp → Option (Int32 × Hp)) (N : Nat) (x4 : Int32) (x5 : Int32) (h : Hp) (q : (Int32 × Hp)) (hk179 : ∀ (x4 : Int32) (h : Hp) (q : (Int32 × Hp)), k179 x4 h = some q → J κ 179 [(0, .inr (.inr 155)), (1, .inl x1), (2, .inl x2), (3, .inl x3), (4, .inl x4)] [] h (some (.inl q.1), q.2)) (hq : itr3 (F_X13_alike_35 x1 x2 x3 k179) N x4 x5 h = some q) : J κ 35 [(0, .inr (.inr 155)), (1, .inl x1), (2, .inl x2), (3, .inl x3), (4, .inl x4), (5, .inl x5)] [] h (some (.inl q.1), q.2) :=
  itr3_ind (fun self hs x4 x5 h q hq => tF_X13_alike_35 X x1 x2 x3 k179 self x4 x5 h q hk179 hs hq) N x4 x5 h q hq
theorem tF_X13_alike_19 {κ : Kx} (X : OK κ cX13_alike 7 (some .int) "StruckWordsModel" 3) (x1 : Int32) (k200 : Int32 → Hp → Option (Int32 × Hp)) (self : Int32 → Int32 → Hp → Option (Int32 × Hp)) (x2 : Int32) (x3 : Int32) (h : Hp) (q : (Int32 × Hp)) (hk200 : ∀ (x2 : Int32) (h : Hp) (q : (Int32 × Hp)), k200 x2 h = some q → J κ 200 [(2, .inl x2)] [] h (some (.inl q.1), q.2)) (hself : ∀ (x2 : Int32) (x3 : Int32) (h : Hp) (q : (Int32 × Hp)), self x2 x3 h = some q → J κ 19 [(0, .inr (.inr 155)), (1, .inl x1), (2, .inl x2), (3, .inl x3)] [] h (some (.inl q.1), q.2)) (hq : F_X13_alike_19 x1 k200 self x2 x3 h = some q) : J κ 19 [(0, .inr (.inr 155)), (1, .inl x1), (2, .inl x2), (3, .inl x3)] [] h (some (.inl q.1), q.2) := by
  delta F_X13_alike_19 at hq
  refine J_iload_n (pc := 19) X (j := 3) (i := 3) rfl rfl dX13_alike_19 ?_
  refine J_aload_n (pc := 20) X (j := 0) (i := 0) rfl rfl dX13_alike_20 ?_
  refine J_getF (pc := 21) X (b := 157) ly155 fl_13_33 rfl dX13_alike_21 ?_
  refine J_iconst (pc := 24) X (v := 2) (by decide) dX13_alike_24 ?_
  refine J_iaload (pc := 25) X ly157 (by decide) dX13_alike_25 ?_
  refine J_icmp_ge (pc := 26) (tgt := 200) X dX13_alike_26 rfl (fun c5 => ?_) (fun c5 => ?_)
  · have hq := ite_t hq c5
    refine J_sub [2] rfl ?_
    exact hk200 _ _ _ hq
  · have hq := ite_f hq c5
    refine J_iconst (pc := 29) X (v := 1) (by decide) dX13_alike_29 ?_
    refine J_istore (pc := 30) X (L' := [(4, .inl 1), (0, .inr (.inr 155)), (1, .inl x1), (2, .inl x2), (3, .inl x3)]) (by decide) rfl dX13_alike_30 ?_
    refine J_iconst (pc := 32) X (v := 0) (by decide) dX13_alike_32 ?_
    refine J_istore (pc := 33) X (L' := [(5, .inl 0), (4, .inl 1), (0, .inr (.inr 155)), (1, .inl x1), (2, .inl x2), (3, .inl x3)]) (by decide) rfl dX13_alike_33 ?_
    refine J_sub [2, 3, 4, 5, 1, 0] rfl ?_
    refine tL_X13_alike_35 X _ _ _ _ N0 _ _ _ _ ?_ hq
    · intro v25 h24 q hq
      refine J_iload_n (pc := 179) X (j := 2) (i := 2) rfl rfl dX13_alike_179 ?_
      refine J_iload (pc := 180) X (j := 4) rfl dX13_alike_180 ?_
      refine J_if_eq (pc := 182) (tgt := 191) X dX13_alike_182 rfl (fun c26 => ?_) (fun c26 => ?_)
      · have hq := ite_t hq c26
        refine J_iconst (pc := 191) X (v := 0) (by decide) dX13_alike_191 ?_
        refine J_ior (pc := 192) X dX13_alike_192 ?_
        refine J_ltI hq (fun v27 hq => ?_)
        refine J_istore_n (pc := 193) X (L' := [(2, .inl v27), (0, .inr (.inr 155)), (1, .inl x1), (3, .inl x3), (4, .inl v25)]) (i := 2) rfl (by decide) rfl dX13_alike_193 ?_
        refine J_iinc (pc := 194) X (j := 3) (v := 1) (L' := [(3, .inl (x3 + 1)), (2, .inl v27), (0, .inr (.inr 155)), (1, .inl x1), (4, .inl v25)]) rfl (by decide) (by decide) rfl dX13_alike_194 ?_
        refine J_goto (pc := 197) X (tgt := 19) dX13_alike_197 rfl ?_
        refine J_sub [2, 3, 1, 0] rfl ?_
        exact hself _ _ _ _ hq
      · have hq := ite_f hq c26
        refine J_iconst (pc := 185) X (v := 1) (by decide) dX13_alike_185 ?_
        refine J_iload_n (pc := 186) X (j := 3) (i := 3) rfl rfl dX13_alike_186 ?_
        refine J_ishl (pc := 187) X dX13_alike_187 ?_
        refine J_goto (pc := 188) X (tgt := 192) dX13_alike_188 rfl ?_
        refine J_ior (pc := 192) X dX13_alike_192 ?_
        refine J_ltI hq (fun v28 hq => ?_)
        refine J_istore_n (pc := 193) X (L' := [(2, .inl v28), (0, .inr (.inr 155)), (1, .inl x1), (3, .inl x3), (4, .inl v25)]) (i := 2) rfl (by decide) rfl dX13_alike_193 ?_
        refine J_iinc (pc := 194) X (j := 3) (v := 1) (L' := [(3, .inl (x3 + 1)), (2, .inl v28), (0, .inr (.inr 155)), (1, .inl x1), (4, .inl v25)]) rfl (by decide) (by decide) rfl dX13_alike_194 ?_
        refine J_goto (pc := 197) X (tgt := 19) dX13_alike_197 rfl ?_
        refine J_sub [2, 3, 1, 0] rfl ?_
        exact hself _ _ _ _ hq
theorem tL_X13_alike_19 {κ : Kx} (X : OK κ cX13_alike 7 (some .int) "StruckWordsModel" 3) (x1 : Int32) (k200 : Int32 → Hp → Option (Int32 × Hp)) (N : Nat) (x2 : Int32) (x3 : Int32) (h : Hp) (q : (Int32 × Hp)) (hk200 : ∀ (x2 : Int32) (h : Hp) (q : (Int32 × Hp)), k200 x2 h = some q → J κ 200 [(2, .inl x2)] [] h (some (.inl q.1), q.2)) (hq : itr3 (F_X13_alike_19 x1 k200) N x2 x3 h = some q) : J κ 19 [(0, .inr (.inr 155)), (1, .inl x1), (2, .inl x2), (3, .inl x3)] [] h (some (.inl q.1), q.2) :=
  itr3_ind (fun self hs x2 x3 h q hq => tF_X13_alike_19 X x1 k200 self x2 x3 h q hk200 hs hq) N x2 x3 h q hq
theorem tf_X13_alike {κ : Kx} (X : OK κ cX13_alike 7 (some .int) "StruckWordsModel" 3) (x1 : Int32) (h : Hp) (q : (Int32 × Hp)) (hq : f_X13_alike x1 h = some q) : J κ 0 [(0, .inr (.inr 155)), (1, .inl x1)] [] h (some (.inl q.1), q.2) := by
  delta f_X13_alike at hq
  refine J_aload_n (pc := 0) X (j := 0) (i := 0) rfl rfl dX13_alike_0 ?_
  refine J_iconst (pc := 1) X (v := 0) (by decide) dX13_alike_1 ?_
  refine J_putI (pc := 2) X ly155 fp_13_1 dX13_alike_2 ?_
  refine J_ltH hq (fun h1 hq => ?_)
  refine J_aload_n (pc := 5) X (j := 0) (i := 0) rfl rfl dX13_alike_5 ?_
  refine J_iload_n (pc := 6) X (j := 1) (i := 1) rfl rfl dX13_alike_6 ?_
  obtain ⟨v3, h2, hc, hq⟩ := bnd_e hq
  refine J_callV (pc := 7) (as := [.inl x1]) (st := []) (st2 := [.inl v3]) (r1 := (some (.inl v3), h2)) (h2 := h2) (ky := 2) X dX13_alike_7 ca_X13_isSaying ci_X13_isSaying cs_X13_isSaying ml_13_272 (by decide) ly155 rfl rfl (m_X13_isSaying _ _ _ hc) rfl rfl (Nat.le_of_ble_eq_true rfl) rfl rfl ?_
  refine J_if_ne (pc := 10) (tgt := 15) X dX13_alike_10 rfl (fun c4 => ?_) (fun c4 => ?_)
  · have hq := ite_f hq c4
    refine J_iconst (pc := 15) X (v := 0) (by decide) dX13_alike_15 ?_
    refine J_istore_n (pc := 16) X (L' := [(2, .inl 0), (0, .inr (.inr 155)), (1, .inl x1)]) (i := 2) rfl (by decide) rfl dX13_alike_16 ?_
    refine J_iconst (pc := 17) X (v := 0) (by decide) dX13_alike_17 ?_
    refine J_istore_n (pc := 18) X (L' := [(3, .inl 0), (2, .inl 0), (0, .inr (.inr 155)), (1, .inl x1)]) (i := 3) rfl (by decide) rfl dX13_alike_18 ?_
    refine J_sub [2, 3, 1, 0] rfl ?_
    refine tL_X13_alike_19 X _ _ N0 _ _ _ _ ?_ hq
    · intro v30 h29 q hq
      refine J_iload_n (pc := 200) X (j := 0) (i := 2) rfl rfl dX13_alike_200 ?_
      obtain rfl := Option.some.inj hq
      exact J_iret (pc := 201) X dX13_alike_201
  · have hq := ite_t hq c4
    refine J_iconst (pc := 13) X (v := (-1)) (by decide) dX13_alike_13 ?_
    obtain rfl := Option.some.inj hq
    exact J_iret (pc := 14) X dX13_alike_14
theorem m_X13_alike (x1 : Int32) (h : Hp) (q : (Int32 × Hp)) (hq : f_X13_alike x1 h = some q) : ∀ l w, CT l w yX13_alike cX13_alike 7 (some .int) 3 [.inr (.inr 155), .inl x1] h (some (.inl q.1), q.2) :=
  CT_of (L0 := [(0, .inr (.inr 155)), (1, .inl x1)]) (by decide) rfl (Nat.le_of_ble_eq_true rfl) (fun κ X => tf_X13_alike X x1 h q  hq)
theorem tF_X13_keep_11 {κ : Kx} (X : OK κ cX13_keep 4 (none) "StruckWordsModel" 1) (x1 : Nat) (x2 : Int32) (k35 : Hp → Option Hp) (self : Int32 → Hp → Option Hp) (x3 : Int32) (h : Hp) (q : Hp) (lx1 : lay x1 = some (.inr (0, (aln x1)))) (hk35 : ∀ (h : Hp) (q : Hp), k35 h = some q → J κ 35 [] [] h (none, q)) (hself : ∀ (x3 : Int32) (h : Hp) (q : Hp), self x3 h = some q → J κ 11 [(0, .inr (.inr 155)), (1, .inr (.inr x1)), (2, .inl x2), (3, .inl x3)] [] h (none, q)) (hq : F_X13_keep_11 x1 x2 k35 self x3 h = some q) : J κ 11 [(0, .inr (.inr 155)), (1, .inr (.inr x1)), (2, .inl x2), (3, .inl x3)] [] h (none, q) := by
  delta F_X13_keep_11 at hq
  refine J_iload_n (pc := 11) X (j := 3) (i := 3) rfl rfl dX13_keep_11 ?_
  refine J_iload_n (pc := 12) X (j := 2) (i := 2) rfl rfl dX13_keep_12 ?_
  refine J_icmp_ge (pc := 13) (tgt := 35) X dX13_keep_13 rfl (fun c2 => ?_) (fun c2 => ?_)
  · have hq := ite_t hq c2
    refine J_sub [] rfl ?_
    exact hk35 _ _ hq
  · have hq := ite_f hq c2
    refine J_aload_n (pc := 16) X (j := 0) (i := 0) rfl rfl dX13_keep_16 ?_
    refine J_getF (pc := 17) X (b := 157) ly155 fl_13_33 rfl dX13_keep_17 ?_
    refine J_sipush (pc := 20) X (v := 438) (by decide) dX13_keep_20 ?_
    refine J_iload_n (pc := 23) X (j := 3) (i := 3) rfl rfl dX13_keep_23 ?_
    refine J_iadd (pc := 24) X dX13_keep_24 ?_
    refine J_aload_n (pc := 25) X (j := 1) (i := 1) rfl rfl dX13_keep_25 ?_
    refine J_iload_n (pc := 26) X (j := 3) (i := 3) rfl rfl dX13_keep_26 ?_
    obtain ⟨g3, hq⟩ := gd hq
    refine J_iaload (pc := 27) X lx1 g3 dX13_keep_27 ?_
    obtain ⟨g4, hq⟩ := gd hq
    refine J_iastore (pc := 28) X ly157 g4 dX13_keep_28 ?_
    refine J_ltH hq (fun h5 hq => ?_)
    refine J_iinc (pc := 29) X (j := 3) (v := 1) (L' := [(3, .inl (x3 + 1)), (0, .inr (.inr 155)), (1, .inr (.inr x1)), (2, .inl x2)]) rfl (by decide) (by decide) rfl dX13_keep_29 ?_
    refine J_goto (pc := 32) X (tgt := 11) dX13_keep_32 rfl ?_
    refine J_sub [1, 2, 3, 0] rfl ?_
    exact hself _ _ _ hq
theorem tL_X13_keep_11 {κ : Kx} (X : OK κ cX13_keep 4 (none) "StruckWordsModel" 1) (x1 : Nat) (x2 : Int32) (k35 : Hp → Option Hp) (N : Nat) (x3 : Int32) (h : Hp) (q : Hp) (lx1 : lay x1 = some (.inr (0, (aln x1)))) (hk35 : ∀ (h : Hp) (q : Hp), k35 h = some q → J κ 35 [] [] h (none, q)) (hq : itr2 (F_X13_keep_11 x1 x2 k35) N x3 h = some q) : J κ 11 [(0, .inr (.inr 155)), (1, .inr (.inr x1)), (2, .inl x2), (3, .inl x3)] [] h (none, q) :=
  itr2_ind (fun self hs x3 h q hq => tF_X13_keep_11 X x1 x2 k35 self x3 h q lx1 hk35 hs hq) N x3 h q hq
theorem tf_X13_keep {κ : Kx} (X : OK κ cX13_keep 4 (none) "StruckWordsModel" 1) (x1 : Nat) (x2 : Int32) (h : Hp) (q : Hp) (lx1 : lay x1 = some (.inr (0, (aln x1)))) (hq : f_X13_keep x1 x2 h = some q) : J κ 0 [(0, .inr (.inr 155)), (1, .inr (.inr x1)), (2, .inl x2)] [] h (none, q) := by
  delta f_X13_keep at hq
  refine J_aload_n (pc := 0) X (j := 0) (i := 0) rfl rfl dX13_keep_0 ?_
  refine J_getF (pc := 1) X (b := 157) ly155 fl_13_33 rfl dX13_keep_1 ?_
  refine J_sipush (pc := 4) X (v := 437) (by decide) dX13_keep_4 ?_
  refine J_iload_n (pc := 7) X (j := 2) (i := 2) rfl rfl dX13_keep_7 ?_
  refine J_iastore (pc := 8) X ly157 (by decide) dX13_keep_8 ?_
  refine J_ltH hq (fun h1 hq => ?_)
  refine J_iconst (pc := 9) X (v := 0) (by decide) dX13_keep_9 ?_
  refine J_istore_n (pc := 10) X (L' := [(3, .inl 0), (0, .inr (.inr 155)), (1, .inr (.inr x1)), (2, .inl x2)]) (i := 3) rfl (by decide) rfl dX13_keep_10 ?_
  refine J_sub [1, 2, 3, 0] rfl ?_
  refine tL_X13_keep_11 X _ _ _ N0 _ _ _ lx1 ?_ hq
  · intro h6 q hq
    obtain rfl := Option.some.inj hq
    exact J_vret (pc := 35) X dX13_keep_35
theorem m_X13_keep (x1 : Nat) (x2 : Int32) (h : Hp) (q : Hp) (lx1 : lay x1 = some (.inr (0, (aln x1)))) (hq : f_X13_keep x1 x2 h = some q) : ∀ l w, CT l w yX13_keep cX13_keep 4 (none) 1 [.inr (.inr 155), .inr (.inr x1), .inl x2] h (none, q) :=
  CT_of (L0 := [(0, .inr (.inr 155)), (1, .inr (.inr x1)), (2, .inl x2)]) (by decide) rfl (Nat.le_of_ble_eq_true rfl) (fun κ X => tf_X13_keep X x1 x2 h q lx1 hq)
