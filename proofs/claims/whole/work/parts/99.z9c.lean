/-! ===== the law's start ===== -/
theorem xa_12 : Cal yX12_init cX12_init 1 none 0 := ⟨by decide +kernel, by decide +kernel, by decide +kernel, by decide⟩
theorem xa_13 : Cal yX13_init cX13_init 2 none 0 := ⟨by decide +kernel, by decide +kernel, by decide +kernel, by decide⟩
theorem xi_12 : Cond.instanceMethod yX12_init ∈ tbl := by decide +kernel
theorem xi_13 : Cond.instanceMethod yX13_init ∈ tbl := by decide +kernel
theorem xl_12 : Cond.methodLink "StruckWordsLaw" 18 yX12_init ∈ tbl := by decide +kernel
theorem xl_13 : Cond.methodLink "StruckWordsLaw" 21 yX13_init ∈ tbl := by decide +kernel
theorem xc_12 : Cond.classLink "StruckWordsLaw" 8 RX12 ∈ tbl ∧ Cond.instantiable RX12 12 ∈ tbl ∧ Cond.initialized RX12 ∈ tbl := by decide +kernel
theorem xc_13 : Cond.classLink "StruckWordsLaw" 19 RX13 ∈ tbl ∧ Cond.instantiable RX13 57 ∈ tbl ∧ Cond.initialized RX13 ∈ tbl := by decide +kernel
theorem xd_12 : ∀ j : Nat, j < 12 → defaultValue (tyX12 j) = vp_V ((knA 10).map dfv) j := by decide
theorem xd_13 : ∀ j : Nat, j < 57 → defaultValue (tyX13 j) = vp_V ((knA 11).map dfv) j := by decide
theorem xk_l : Cond.arrayClass .long ∈ tbl := by decide +kernel
section ZC
variable {p : Program} {l : Launch} {e : Env} {s : State} {m : MethodId} {args : Array Value} {below : List Frame} {meth : Method} {c : Code} {w : Wd} {H : Heap} {locs : List Loc} {cells slots n pc : Nat} {Q : State → Prop} {h : Hp} {ls : Array Slot} {rest : List Value}
theorem S_new (hx : p.tables.exec = Jvm.exec) (hb : c.code = code) (hown : s.vm.findClass "StruckWordsLaw" = some m.cls) (hts : ∀ q ∈ tbl, q.before args s = true) (hK : va_K w.1 vwCl (tys w) s) (hP : va_P w.1 vwCl (wdA w n h) H) (hz : H.size = w.2.2 (n + 1)) (hw : Wad w)
    {idx ci N : Nat} {C : String} {T : u_T} {ty : Nat → FieldType} (hq : vwCl[ci]? = some (C, T, N)) (hin : ∀ w ∈ u_ws C T N, w ∈ tbl) (hty : ∀ k, k < N → parseFieldDescriptor (T k).2.2.1 = some (ty k)) (hcl : Cond.classLink "StruckWordsLaw" idx C ∈ tbl ∧ Cond.instantiable C N ∈ tbl ∧ Cond.initialized C ∈ tbl) (hdf : ∀ j : Nat, j < N → defaultValue (ty j) = vp_V ((knA ci).map dfv) j) (hk2 : (knA ci).all (fun q => decide (q.1 ≠ 2)) = true) (hlay : lay (n + 1) = some (.inl ci)) (hd : decode code pc = .ok (.new idx, 3)) (hc1 : cells + 1 ≤ 601024) (hs1 : slots + N ≤ 7293034) (hS : va_S (Ab w) s.heap H locs)
    (K : ∀ H1, va_P w.1 vwCl (wdA w (n + 1) (nw h (n + 1))) H1 → H1.size = w.2.2 (n + 2) → va_S (Ab w) s.heap H1 locs → W p l e room_1 s m args below meth c H1 locs (cells + 1) (slots + N) Q (F0 m (pc + 3) ls (.ref (w.2.2 (n + 1)) :: rest))) : W p l e room_1 s m args below meth c H locs cells slots Q (F0 m pc ls rest) := by
  have hKn := hK.1 ci _ hq
  refine W.newcK hx hb hown (hts _ hcl.1) (hts _ hcl.2.1) (hts _ hcl.2.2) rfl hd hc1 hs1 hKn.2.1 rfl fun H1 kC hkC e1 z1 o1 => ?_
  have hz2 : H1.size = w.2.2 (n + 2) := by rw [z1, hz, hw (n + 1), hw (n + 2)]; omega
  have K := K H1 ?_ hz2 ⟨Nat.le_trans hS.1 (by omega), fun x h1 h2 => (o1 x (Nat.lt_of_lt_of_le h1 hS.1)).trans (hS.2.1 x h1 h2), hS.2.2⟩
  · rw [← hz] at K
    exact K
  · have e2 := wdA_push (w := w) (n := n) (h := h) (h' := nw h (n + 1)) (e := .inr (ci, (knA ci).map dfv)) (by rw [celA_o hlay, map_dfv hk2]) (fun q hq => nw_ne q (by omega))
    rw [← e2, ← hz]
    refine (hP.kept (fun k x hx => o1 x.1 ((hP k x hx).lt))).app (fun k x hx => ?_)
    have hzz : k < 1 := (List.getElem?_eq_some_iff.mp hx).1
    rw [show k = 0 by omega] at hx
    cases hx
    exact ⟨_, hq, (u_born ty hts hin hKn hkC e1 hty).to hdf⟩
theorem S_call (hx : p.tables.exec = Jvm.exec) (hb : c.code = code) (hml : c.maxLocals = 7) (hown : s.vm.findClass "StruckWordsLaw" = some m.cls) (hts : ∀ q ∈ tbl, q.before args s = true) (hK : va_K w.1 vwCl (tys w) s) (hN : NwA s) (hP : va_P w.1 vwCl (wdA w n h) H) (hz : H.size = w.2.2 (n + 1)) (hw : Wad w)
    {y : MethodName} {cy : ByteArray} {ny ky idx a n1 c1 s1 : Nat} {h1 : Hp} (hd : decode code pc = .ok (.invokespecial idx, 3)) (hM : Cal y cy ny none 0) (hi : Cond.instanceMethod y ∈ tbl) (hy : y.name = "<init>") (hl : Cond.methodLink "StruckWordsLaw" idx y ∈ tbl) (hk : ky + 1 ≤ 1300) (hc : CTA l w y cy ny ky c1 s1 [.inr (.inr a)] n h (n1, h1)) (ha : ¬ a = 0) (hls : ls.size = 7) (hct : (rest.map fun v => v.category).sum ≤ 8) (hc1 : cells + c1 ≤ 601024) (hs1 : slots + s1 ≤ 7293034) (hS : va_S (Ab w) s.heap H locs)
    (K : ∀ H1 locs1, va_P w.1 vwCl (wdA w n1 h1) H1 → H1.size = w.2.2 (n1 + 1) → va_S (Ab w) s.heap H1 locs1 → W p l e room_1 s m args below meth c H1 locs1 (cells + c1) (slots + s1) Q (F0 m (pc + 3) ls rest)) : W p l e room_1 s m args below meth c H locs cells slots Q (F0 m pc ls (.ref (w.2.2 a) :: rest)) := by
  have e0 : tv w (.inr (.inr a)) = .ref (w.2.2 a) := tv_ref ha
  have hr := va_runI (R := room_1) (locs := locs) (cells := cells) (slots := slots) (meth := meth) (e := e) (below := below) (b := w.2.2 a) (As := []) (rest := rest) (g := F0 m pc ls (.ref (w.2.2 a) :: rest)) ⟨hx, hb, hml, hown, hts⟩ hc ⟨cal_BA hts hM hl (lv := 1300) (by decide) (by decide) hk, hy, hts _ hi⟩
    ⟨WSA_blind, fun U hU hW => ⟨by rw [List.map_cons, e0]; rfl, by rw [hU]; exact hP, by rw [hU]; exact hz, va_K.moved hW.alike hK, hw, hN.warm hW⟩⟩ rfl rfl hls rfl (by show 2 * 0 + _ ≤ 8; omega) hd ⟨hc1, hs1⟩
  intro T hT X
  obtain ⟨v, st₀, t, T', L2, h0, X', hL, e1, e2, ⟨hv, hWS, hzz, hk⟩, stp⟩ := hr T hT X
  cases hv
  rw [h0] at hzz hk
  have hP1 : va_P w.1 vwCl (wdA w n1 h1) T'.heap := by rw [e1]; exact hWS.1
  obtain ⟨t2, a1, b1⟩ := K T'.heap (locs ++ L2) hP1 (by rw [e1]; exact hWS.2.1) ⟨Nat.le_trans hS.1 (by rw [e1]; exact hzz), fun q h1 h2 => by rw [e1, hk q (Nat.lt_of_lt_of_le h1 hS.1) h2]; exact hS.2.1 q h1 h2, fun q hq => by
      rcases List.mem_append.mp hq with h | h
      · exact hS.2.2 q h
      · exact hL q h⟩ T' rfl X'
  exact ⟨t2, stp t2 a1, b1⟩
end ZC
def adr (z b tA tS : Nat) (ad : Nat → Nat) (r : Nat) : Nat := if r < 300 then z - 1 + r else if r < 316 then ad (r - 300) else if r = 320 then tA else if r = 321 then tS else if r = 400 then b else z + 185
theorem va_T_ext {ty : FieldType} {t N : Nat} {f g : Nat → Value} {A : Nat → Prop} {U : State} {H : Heap} (h : va_T ty t N f A U H) (he : ∀ j, j < N → f j = g j) : va_T ty t N g A U H := by
  obtain ⟨cell, h1, h2, h3, h4, h5, h6, h7⟩ := h
  exact ⟨cell, h1, h2, h3, h4, h5, fun j hj => by rw [h6 j hj, he j hj], h7⟩
theorem s_Cst {s : State} {w : Wd} {ad : Nat → Nat} {tA tS : Nat} (h1 : va_En gE gD kwN kwF ad (An s) s s.heap) (h2 : va_Z gE "ALL" "[LStruckWords$Keyword;" (.ref tA) (An s) s s.heap) (h3 : va_T (.object gE) tA 16 (fun j => .ref (ad j)) (An s) s s.heap) (h4 : va_Z "StruckWords$1" gM "[I" (.ref tS) (An s) s s.heap) (h5 : va_T .int tS 16 (fun j => .int (swT.getD j 0)) (An s) s s.heap) (e1 : ∀ i, i < 16 → w.2.2 (300 + i) = ad i) (e2 : w.2.2 320 = tA) (e3 : w.2.2 321 = tS) (hA : ∀ q, Aw w q → An s q) : Cst w s s.heap := by
  have g1 := va_En.narrow h1 hA
  refine ⟨⟨fun i hi => ?_, fun i j hi hj hij => ?_⟩, ?_, ?_, ?_, ?_⟩
  · have := g1.1 i hi
    rw [← e1 i hi] at this
    exact this
  · have hij : w.2.2 (300 + i) = w.2.2 (300 + j) := hij
    rw [e1 i hi, e1 j hj] at hij
    exact g1.2 i j hi hj hij
  · rw [e2]; exact va_Z.narrow h2 hA
  · rw [e2]; exact va_T_ext (va_T.narrow h3 hA) (fun j hj => by rw [e1 j hj])
  · rw [e3]; exact va_Z.narrow h4 hA
  · rw [e3]; exact va_T.narrow h5 hA
