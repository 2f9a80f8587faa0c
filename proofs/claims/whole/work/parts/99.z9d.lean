theorem whole_start {p : Program} {e : Env} {s : State} {m : MethodId} {below : List Frame} {meth : Method} {c : Code} {b L : Nat} {xs : Nat → Int32} (l : Launch) (hst : l.stackTraces = false) (hL : L ≤ 3072) (C0 : lw_At p s m meth c b L xs) : W p l e room_1 s m #[Value.ref b] below meth c s.heap [] 0 0 (lw_Z below #[Value.ref b] s) (entryFrame m ([Value.ref b] : List Value).toArray 7) := by
  obtain ⟨hx, hb, hr, hml, hown, hts, hX, hbl, hlk, hgv⟩ := C0
  have hown : s.vm.findClass "StruckWordsLaw" = some m.cls := hown
  obtain ⟨D, T, hK⟩ := s_K hts
  obtain ⟨hNA, hN⟩ := s_N hts
  obtain ⟨ad, tA, tS, c1, c2, c3, c4, c5⟩ := s_C hts hgv
  obtain ⟨g, q, i1, i2, i3, i4, i5⟩ := ini_run
  have ht : ∀ w ∈ tbl, w.before #[Value.ref b] s = true := fun w hw => hts w (List.mem_filter.mp hw).1
  obtain ⟨z, hz⟩ : ∃ z, z = s.heap.size := ⟨_, rfl⟩
  have hz1 : 1 ≤ z := by omega
  obtain ⟨w0, hw0⟩ : ∃ w : Wd, w = (D, T, fun i => z - 1 + i) := ⟨_, rfl⟩
  obtain ⟨w1, hw1⟩ : ∃ w : Wd, w = (D, T, adr z b tA tS ad) := ⟨_, rfl⟩
  have a0 : ∀ i, w0.2.2 i = z - 1 + i := fun i => by rw [hw0]
  have aWad : Wad w0 := fun i => by rw [a0 i, a0 0]; omega
  have a1 : ∀ r, r < 300 → w1.2.2 r = z - 1 + r := fun r hr => by rw [hw1]; show adr z b tA tS ad r = _; unfold adr; rw [if_pos hr]
  have a2 : ∀ i, i < 16 → w1.2.2 (300 + i) = ad i := fun i hi => by rw [hw1]; show adr z b tA tS ad (300 + i) = _; unfold adr; rw [if_neg (by omega), if_pos (by omega), Nat.add_sub_cancel_left]
  have a3 : w1.2.2 320 = tA := by rw [hw1]; rfl
  have a4 : w1.2.2 321 = tS := by rw [hw1]; rfl
  have a5 : w1.2.2 400 = b := by rw [hw1]; rfl
  have a6 : w1.2.2 401 = z + 185 := by rw [hw1]; rfl
  have hK0 : va_K w0.1 vwCl (tys w0) s := by rw [hw0]; exact hK _
  have hK1 : va_K w1.1 vwCl (tys w1) s := by rw [hw1]; exact hK _
  have had : ∀ r, 1 ≤ r → r ≤ 185 → s.heap.size ≤ w1.2.2 r ∧ w1.2.2 r ≠ w1.2.2 401 := fun r r1 r2 => by rw [a1 r (by omega), a6]; omega
  have hA : ∀ x, Aw w1 x → An s x := fun x hx => by
    obtain ⟨r, r1, r2, r3⟩ := hx
    show s.heap.size ≤ x
    rw [r3]
    exact (had r r1 r2).1
  have X : OKL (p, l, e, s, m, below, meth, c, w1, b, L, xs) := ⟨hx, hb, hml, hr, hown, ht, hlk, hX, hbl, fun i j i1 i2 j1 j2 hij => by rw [a1 i (by omega), a1 j (by omega)] at hij; omega, hK1, s_Cst c1 c2 c3 c4 c5 a2 a3 a4 hA, hN, a5, had, by rw [a6]; omega⟩
  have XT : OKT (p, l, e, s, m, below, meth, c, w1, b, L, xs) := ⟨hst, s_T (w := w1) hts hgv (fun r r1 r2 => (had r r1 r2).1)⟩
  have hI : Inv q.2.2.2 := ini_Inv i5
  have hR := ini_R i5
  have hW : ∀ r, 1 ≤ r → r ≤ 185 → chkW q.2.2.2 r = true := fun r r1 r2 => by
    have := all_r (i5 _ ik_w) (show r - 1 < 185 by omega)
    rw [show r - 1 + 1 = r by omega] at this
    exact this
  have hl := lv_entry [Value.ref b] (n := 7) (Nat.le_of_ble_eq_true rfl)
  rw [lg_entry_eq]
  generalize (lg_sl [Value.ref b] ++ List.replicate (7 - (lg_sl [Value.ref b]).length) Slot.unset).toArray = ls at hl ⊢
  have hl : lv_has ls 7 [(0, .ref b)] := hl
  refine S_new (pc := 0) (n := 0) (h := hz0) (w := w0) (T := TX12) (ty := tyX12) (C := RX12) (N := 12) (ci := 10) hx hb hown ht hK0 (fun k x hk => by cases hk) (by rw [a0]; omega) aWad rfl iX12 tyX12_ok xc_12 xd_12 (by decide) ly1 dL_law_0 (by decide) (by decide) ⟨Nat.le_refl _, fun x _ _ => rfl, fun x hx => by cases hx⟩ (fun H1 P1 z1 S1 => ?_)
  refine lv_dup (pc := 3) hx hb dL_law_3 rfl ?_
  refine S_call (pc := 4) (a := 1) (n := 1) (w := w0) (n1 := g.1) (h1 := g.2.2.2) (c1 := 153) (s1 := 9418) (ky := 6) hx hb hml hown ht hK0 hNA P1 z1 aWad dL_law_4 xa_12 xi_12 rfl xl_12 (by decide) (mA_X12_init 1 1 (nw hz0 1) g i1 l w0) (by decide) hl.1 (Nat.le_of_ble_eq_true rfl) (by decide) (by decide) S1 (fun H2 locs2 P2 z2 S2 => ?_)
  rw [i2] at P2 z2
  refine lv_astore_n (pc := 7) (k := 1) hx hb dL_law_7 (i := 1) rfl hl (by decide) (lv' := [(1, .ref (w0.2.2 1)), (0, .ref b)]) rfl (fun ls2 hl2 => ?_)
  refine S_new (pc := 8) (n := 154) (h := g.2.2.2) (w := w0) (T := TX13) (ty := tyX13) (C := RX13) (N := 57) (ci := 11) hx hb hown ht hK0 P2 z2 aWad rfl iX13 tyX13_ok xc_13 xd_13 (by decide) ly155 dL_law_8 (by decide) (by decide) S2 (fun H3 P3 z3 S3 => ?_)
  refine lv_dup (pc := 11) hx hb dL_law_11 rfl ?_
  refine S_call (pc := 12) (a := 155) (n := 155) (w := w0) (n1 := q.1) (h1 := q.2.2.2) (c1 := 30) (s1 := 14788) (ky := 3) hx hb hml hown ht hK0 hNA P3 z3 aWad dL_law_12 xa_13 xi_13 rfl xl_13 (by decide) (mA_X13_init 155 155 (nw g.2.2.2 155) q i3 l w0) (by decide) hl2.1 (Nat.le_of_ble_eq_true rfl) (by decide) (by decide) S3 (fun H4 locs4 P4 z4 S4 => ?_)
  rw [i4] at P4 z4
  refine lv_astore_n (pc := 15) (k := 2) hx hb dL_law_15 (i := 2) rfl hl2 (by decide) (lv' := [(2, .ref (w0.2.2 155)), (1, .ref (w0.2.2 1)), (0, .ref b)]) rfl (fun ls3 hl3 => ?_)
  refine lv_iconst (pc := 16) hx hb dL_law_16 (v := 1) (by decide) ?_
  refine va_newaK hx hb (atype := .long) (ht _ xk_l) rfl dL_law_17 rfl (by decide) (N := 1) (by decide) (by decide) (by decide) (by decide) rfl fun H5 cA e1 z5 o5 hAr hNm => ?_
  have hcA : cA = w1.2.1 1 := Option.some.inj (hNm.symm.trans (hK1.2 1 _ rfl).2)
  subst hcA
  have z4' : H4.size = z + 185 := by rw [z4, a0]; omega
  rw [z4'] at e1 z5 o5 ⊢
  have P5 : va_P w1.1 vwCl (wd w1 q.2.2.2) H5 := by
    have P5 : va_P w0.1 vwCl (wdA w0 185 q.2.2.2) H5 := P4.kept (fun k x hk => o5 x.1 (by rw [← z4']; exact (P4 k x hk).lt))
    rw [hw0] at P5
    have P6 := wd_same (a1 := adr z b tA tS ad) hR hW (fun r r1 r2 => by unfold adr; rw [if_pos (by omega)]) P5
    rw [hw1]
    exact P6
  have O5 : va_P w1.1 vwCl (outW w1 0) H5 := by
    intro k x hk
    match k, hk with
    | 0, hk =>
      cases hk
      show H5[w1.2.2 401]? = _
      rw [a6]
      exact e1
    | k + 1, hk => cases hk
  have S5 : va_S (An s) s.heap H5 locs4 := ⟨by have := S4.1; omega, fun x h1 h2 => (o5 x (by have := S4.1; omega)).trans (S4.2.1 x h1 (fun y => h2 (by have y : w0.2.2 1 ≤ x := y; rw [a0] at y; show s.heap.size ≤ x; omega))), fun x hx => by
    have y : w0.2.2 1 ≤ x.base := S4.2.2 x hx
    rw [a0] at y
    show s.heap.size ≤ x.base
    omega⟩
  refine lv_astore_n (pc := 19) (k := 3) hx hb dL_law_19 (i := 3) rfl hl3 (by decide) (lv' := [(3, .ref (z + 185)), (2, .ref (w0.2.2 155)), (1, .ref (w0.2.2 1)), (0, .ref b)]) rfl (fun ls4 hl4 => ?_)
  refine lv_iconst (pc := 20) hx hb dL_law_20 (v := 0) (by decide) ?_
  refine lv_istore (pc := 21) hx hb dL_law_21 hl4 (by decide) (lv' := [(4, .int 0), (3, .ref (z + 185)), (2, .ref (w0.2.2 155)), (1, .ref (w0.2.2 1)), (0, .ref b)]) rfl (fun ls5 hl5 => ?_)
  refine W.widen (k := lwC 0) (n := lwS 0) (by decide) (by decide) ?_
  refine L_loop X XT hL 512 0 q.2.2.2 0 (by show L ≤ _; omega) (by omega) hI H5 locs4 ls5 P5 O5 S5 ?_
  have e : (LL (6 * 0)).map (tl w1) = [(4, .int 0), (3, .ref (z + 185)), (2, .ref (w0.2.2 155)), (1, .ref (w0.2.2 1)), (0, .ref b)] := by
    show [(4, tv w1 (.inl (nI 0))), (3, tv w1 (.inr (.inr 401))), (2, tv w1 (.inr (.inr 155))), (1, tv w1 (.inr (.inr 1))), (0, tv w1 (.inr (.inr 400)))] = _
    rw [tv_ref (show 401 ≠ 0 by decide), tv_ref (show 155 ≠ 0 by decide), tv_ref (show 1 ≠ 0 by decide), tv_ref (show 400 ≠ 0 by decide), a6, a1 155 (by decide), a1 1 (by decide), a5, a0, a0]
    rfl
  rw [e]
  exact hl5
