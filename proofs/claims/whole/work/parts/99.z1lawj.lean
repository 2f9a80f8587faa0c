/-! ===== the law: its own judgement ===== -/
/-- p, l, e, s, m, below, meth, c, w, the script: b, its length, its ints -/
abbrev KL : Type := Program × Launch × Env × State × MethodId × List Frame × Method × Code × Wd × Nat × Nat × (Nat → Int32)
def An (s : State) : Nat → Prop := fun q => s.heap.size ≤ q
/-- the law's long[1] -/
def outW (w : Wd) (v : Int64) : va_W := [(w.2.2 401, .inl (w.2.1 1, 1, .inr (.inl (fun _ => v))))]
def OKL (κ : KL) : Prop := match κ with
  | (p, l, e, s, m, below, meth, c, w, b, Ln, xs) => p.tables.exec = Jvm.exec ∧ c.code = code ∧ c.maxLocals = 7 ∧ meth.sig.returnType = ret ∧ s.vm.findClass "StruckWordsLaw" = some m.cls ∧ (∀ q ∈ tbl, q.before #[Value.ref b] s = true) ∧ meth.locks = false ∧ va_X b Ln xs s s.heap ∧ b < s.heap.size ∧ Wok w ∧ va_K w.1 vwCl (tys w) s ∧ Cst w s s.heap ∧ Nw s ∧ w.2.2 400 = b ∧ (∀ r, 1 ≤ r → r ≤ 185 → s.heap.size ≤ w.2.2 r ∧ w.2.2 r ≠ w.2.2 401) ∧ s.heap.size ≤ w.2.2 401
def lwC (i : Nat) : Nat := 400 + 2 * i
def lwS (i : Nat) : Nat := 25000 + 20 * i
def JL (κ : KL) (pc : Nat) (L : List (Nat × cv)) (st : List cv) (h : Hp) (v : Int64) (i : Nat) : Prop := match κ with
  | (p, l, e, s, m, below, meth, c, w, b, Ln, xs) => ∀ (H : Heap) (locs : List Loc) (ls : Array Slot), va_P w.1 vwCl (wd w h) H → va_P w.1 vwCl (outW w v) H → va_S (An s) s.heap H locs → lv_has ls 7 (L.map (tl w)) → W p l e room_1 s m #[Value.ref b] below meth c H locs (lwC i) (lwS i) (lw_Z below #[Value.ref b] s) (F0 m pc ls (st.map (tv w)))
section LLL
variable {κ : KL} {pc i : Nat} {L L' : List (Nat × cv)} {st : List cv} {h : Hp} {o : Int64}
theorem L_widen (K : JL κ pc L st h o (i + 1)) : JL κ pc L st h o i := by
  obtain ⟨p, l, e, s, m, below, meth, c, w, b, Ln, xs⟩ := κ
  intro H locs ls hP hO hS hl
  exact W.widen (by unfold lwC; omega) (by unfold lwS; omega) (K H locs ls hP hO hS hl)
theorem L_iconst (X : OKL κ) {n : Int} {v : Int32} (hv : Int32.ofInt n = v) (hd : decode code pc = .ok (.iconst n, 1)) (K : JL κ (pc + 1) L (.inl v :: st) h o i) : JL κ pc L st h o i := by
  obtain ⟨p, l, e, s, m, below, meth, c, w, b, Ln, xs⟩ := κ
  obtain ⟨hx, hb, hml, hr, hown, hts, hlk, hX, hbl, hw, hK, hC, hN, h4, had, hou⟩ := X
  intro H locs ls hP hO hS hl
  exact lv_iconst hx hb hd hv (K H locs ls hP hO hS hl)
theorem L_bipush (X : OKL κ) {n : Int} {v : Int32} (hv : (Int8.ofInt n).toInt32 = v) (hd : decode code pc = .ok (.bipush n, 2)) (K : JL κ (pc + 2) L (.inl v :: st) h o i) : JL κ pc L st h o i := by
  obtain ⟨p, l, e, s, m, below, meth, c, w, b, Ln, xs⟩ := κ
  obtain ⟨hx, hb, hml, hr, hown, hts, hlk, hX, hbl, hw, hK, hC, hN, h4, had, hou⟩ := X
  intro H locs ls hP hO hS hl
  exact lv_bipush hx hb hd hv (K H locs ls hP hO hS hl)
theorem L_iload (X : OKL κ) {j k : Nat} {x : Int32} (hk : L[j]? = some (k, .inl x)) (hd : decode code pc = .ok (.iload k, 2)) (K : JL κ (pc + 2) L (.inl x :: st) h o i) : JL κ pc L st h o i := by
  obtain ⟨p, l, e, s, m, below, meth, c, w, b, Ln, xs⟩ := κ
  obtain ⟨hx, hb, hml, hr, hown, hts, hlk, hX, hbl, hw, hK, hC, hN, h4, had, hou⟩ := X
  intro H locs ls hP hO hS hl
  exact lv_iload hx hb hd (has_at hl hk) (K H locs ls hP hO hS hl)
theorem L_aload_n (X : OKL κ) {k : Fin 4} {j k' x : Nat} (hx0 : x ≠ 0) (hi : (k : Nat) = k') (hk : L[j]? = some (k', .inr (.inr x))) (hd : decode code pc = .ok (.aload_n k, 1)) (K : JL κ (pc + 1) L (.inr (.inr x) :: st) h o i) : JL κ pc L st h o i := by
  obtain ⟨p, l, e, s, m, below, meth, c, w, b, Ln, xs⟩ := κ
  obtain ⟨hx, hb, hml, hr, hown, hts, hlk, hX, hbl, hw, hK, hC, hN, h4, had, hou⟩ := X
  intro H locs ls hP hO hS hl
  have hv := has_at hl hk
  have K := K H locs ls hP hO hS hl
  rw [List.map_cons] at K
  rw [tv_ref hx0] at hv K
  exact lv_aload_n hx hb hd hi hv K
theorem L_istore (X : OKL κ) {k : Nat} {x : Int32} (hn : k < 7) (hL : st1 L k (.inl x) = L') (hd : decode code pc = .ok (.istore k, 2)) (K : JL κ (pc + 2) L' st h o i) : JL κ pc L (.inl x :: st) h o i := by
  obtain ⟨p, l, e, s, m, below, meth, c, w, b, Ln, xs⟩ := κ
  obtain ⟨hx, hb, hml, hr, hown, hts, hlk, hX, hbl, hw, hK, hC, hN, h4, had, hou⟩ := X
  intro H locs ls hP hO hS hl
  exact lv_istore hx hb hd hl hn ((st1_map w L k (.inl x)).trans (by rw [hL])) (fun ls' hl' => K H locs ls' hP hO hS hl')
theorem L_iinc (X : OKL κ) {k j : Nat} {n : Int} {x v : Int32} (hk : L[j]? = some (k, .inl x)) (hv : Int32.ofInt n = v) (hn : k < 7) (hL : st1 L k (.inl (x + v)) = L') (hd : decode code pc = .ok (.iinc k n, 3)) (K : JL κ (pc + 3) L' st h o i) : JL κ pc L st h o i := by
  obtain ⟨p, l, e, s, m, below, meth, c, w, b, Ln, xs⟩ := κ
  obtain ⟨hx, hb, hml, hr, hown, hts, hlk, hX, hbl, hw, hK, hC, hN, h4, had, hou⟩ := X
  intro H locs ls hP hO hS hl
  exact lv_iinc (k := j) hx hb hd hl (by rw [List.getElem?_map, hk]; rfl) (by rw [hv]) hn ((st1_map w L k (.inl (x + v))).trans (by rw [hL])) (fun ls' hl' => K H locs ls' hP hO hS hl')
theorem L_iadd (X : OKL κ) {x y : Int32} (hd : decode code pc = .ok (.iadd, 1)) (K : JL κ (pc + 1) L (.inl (x + y) :: st) h o i) : JL κ pc L (.inl y :: .inl x :: st) h o i := by
  obtain ⟨p, l, e, s, m, below, meth, c, w, b, Ln, xs⟩ := κ
  obtain ⟨hx, hb, hml, hr, hown, hts, hlk, hX, hbl, hw, hK, hC, hN, h4, had, hou⟩ := X
  intro H locs ls hP hO hS hl
  exact lv_iadd hx hb hd (K H locs ls hP hO hS hl)
theorem L_isub (X : OKL κ) {x y : Int32} (hd : decode code pc = .ok (.isub, 1)) (K : JL κ (pc + 1) L (.inl (x - y) :: st) h o i) : JL κ pc L (.inl y :: .inl x :: st) h o i := by
  obtain ⟨p, l, e, s, m, below, meth, c, w, b, Ln, xs⟩ := κ
  obtain ⟨hx, hb, hml, hr, hown, hts, hlk, hX, hbl, hw, hK, hC, hN, h4, had, hou⟩ := X
  intro H locs ls hP hO hS hl
  exact lv_isub hx hb hd (K H locs ls hP hO hS hl)
theorem L_iand (X : OKL κ) {x y : Int32} (hd : decode code pc = .ok (.iand, 1)) (K : JL κ (pc + 1) L (.inl (x &&& y) :: st) h o i) : JL κ pc L (.inl y :: .inl x :: st) h o i := by
  obtain ⟨p, l, e, s, m, below, meth, c, w, b, Ln, xs⟩ := κ
  obtain ⟨hx, hb, hml, hr, hown, hts, hlk, hX, hbl, hw, hK, hC, hN, h4, had, hou⟩ := X
  intro H locs ls hP hO hS hl
  exact lv_iand hx hb hd (K H locs ls hP hO hS hl)
theorem L_i2l (X : OKL κ) {x : Int32} (hd : decode code pc = .ok (.i2l, 1)) (K : JL κ (pc + 1) L (.inr (.inl x.toInt64) :: st) h o i) : JL κ pc L (.inl x :: st) h o i := by
  obtain ⟨p, l, e, s, m, below, meth, c, w, b, Ln, xs⟩ := κ
  obtain ⟨hx, hb, hml, hr, hown, hts, hlk, hX, hbl, hw, hK, hC, hN, h4, had, hou⟩ := X
  intro H locs ls hP hO hS hl
  exact lv_i2l hx hb hd rfl (K H locs ls hP hO hS hl)
theorem L_lcmp (X : OKL κ) {x y : Int64} (hd : decode code pc = .ok (.lcmp, 1)) (K : JL κ (pc + 1) L (.inl (lg_cmp x y) :: st) h o i) : JL κ pc L (.inr (.inl y) :: .inr (.inl x) :: st) h o i := by
  obtain ⟨p, l, e, s, m, below, meth, c, w, b, Ln, xs⟩ := κ
  obtain ⟨hx, hb, hml, hr, hown, hts, hlk, hX, hbl, hw, hK, hC, hN, h4, had, hou⟩ := X
  intro H locs ls hP hO hS hl
  exact W.lcmp hx hb hd (K H locs ls hP hO hS hl)
theorem L_if_eq (X : OKL κ) {x : Int32} {off : Int} {tgt : Nat} (hd : decode code pc = .ok (.ifCond .eq off, 3)) (ht : (pc : Int) + off = (tgt : Int)) (kt : x = 0 → JL κ tgt L st h o i) (kf : ¬ x = 0 → JL κ (pc + 3) L st h o i) : JL κ pc L (.inl x :: st) h o i := by
  obtain ⟨p, l, e, s, m, below, meth, c, w, b, Ln, xs⟩ := κ
  obtain ⟨hx, hb, hml, hr, hown, hts, hlk, hX, hbl, hw, hK, hC, hN, h4, had, hou⟩ := X
  intro H locs ls hP hO hS hl
  exact lv_if_eq hx hb hd ht (fun q => kt q H locs ls hP hO hS hl) (fun q => kf q H locs ls hP hO hS hl)
theorem L_if_ne (X : OKL κ) {x : Int32} {off : Int} {tgt : Nat} (hd : decode code pc = .ok (.ifCond .ne off, 3)) (ht : (pc : Int) + off = (tgt : Int)) (kt : ¬ x = 0 → JL κ tgt L st h o i) (kf : x = 0 → JL κ (pc + 3) L st h o i) : JL κ pc L (.inl x :: st) h o i := by
  obtain ⟨p, l, e, s, m, below, meth, c, w, b, Ln, xs⟩ := κ
  obtain ⟨hx, hb, hml, hr, hown, hts, hlk, hX, hbl, hw, hK, hC, hN, h4, had, hou⟩ := X
  intro H locs ls hP hO hS hl
  exact lv_if_ne hx hb hd ht (fun q => kt q H locs ls hP hO hS hl) (fun q => kf q H locs ls hP hO hS hl)
theorem L_icmp_eq (X : OKL κ) {x y : Int32} {off : Int} {tgt : Nat} (hd : decode code pc = .ok (.if_icmp .eq off, 3)) (ht : (pc : Int) + off = (tgt : Int)) (kt : x = y → JL κ tgt L st h o i) (kf : ¬ x = y → JL κ (pc + 3) L st h o i) : JL κ pc L (.inl y :: .inl x :: st) h o i := by
  obtain ⟨p, l, e, s, m, below, meth, c, w, b, Ln, xs⟩ := κ
  obtain ⟨hx, hb, hml, hr, hown, hts, hlk, hX, hbl, hw, hK, hC, hN, h4, had, hou⟩ := X
  intro H locs ls hP hO hS hl
  exact lv_icmp_eq hx hb hd ht (fun q => kt q H locs ls hP hO hS hl) (fun q => kf q H locs ls hP hO hS hl)
theorem L_icmp_gt (X : OKL κ) {x y : Int32} {off : Int} {tgt : Nat} (hd : decode code pc = .ok (.if_icmp .gt off, 3)) (ht : (pc : Int) + off = (tgt : Int)) (kt : y < x → JL κ tgt L st h o i) (kf : ¬ y < x → JL κ (pc + 3) L st h o i) : JL κ pc L (.inl y :: .inl x :: st) h o i := by
  obtain ⟨p, l, e, s, m, below, meth, c, w, b, Ln, xs⟩ := κ
  obtain ⟨hx, hb, hml, hr, hown, hts, hlk, hX, hbl, hw, hK, hC, hN, h4, had, hou⟩ := X
  intro H locs ls hP hO hS hl
  exact lv_icmp_gt hx hb hd ht (fun q => kt q H locs ls hP hO hS hl) (fun q => kf q H locs ls hP hO hS hl)
theorem L_goto (X : OKL κ) {off : Int} {tgt : Nat} (hd : decode code pc = .ok (.goto off, 3)) (ht : (pc : Int) + off = (tgt : Int)) (K : JL κ tgt L st h o i) : JL κ pc L st h o i := by
  obtain ⟨p, l, e, s, m, below, meth, c, w, b, Ln, xs⟩ := κ
  obtain ⟨hx, hb, hml, hr, hown, hts, hlk, hX, hbl, hw, hK, hC, hN, h4, had, hou⟩ := X
  intro H locs ls hP hO hS hl
  exact lv_goto hx hb hd ht (K H locs ls hP hO hS hl)
theorem L_tsIn (X : OKL κ) {dflt lo hi : Int} {offs : Array Int} {len : Nat} {x : Int32} {off : Int} {tgt : Nat} (hd : decode code pc = .ok (.tableswitch dflt lo hi offs, len)) (v : Int) (hv : x.toInt = v) (h1 : ¬ v < lo) (h2 : ¬ hi < v) (ho : offs[(v - lo).toNat]? = some off) (ht : (pc : Int) + off = (tgt : Int)) (K : JL κ tgt L st h o i) : JL κ pc L (.inl x :: st) h o i := by
  obtain ⟨p, l, e, s, m, below, meth, c, w, b, Ln, xs⟩ := κ
  obtain ⟨hx, hb, hml, hr, hown, hts, hlk, hX, hbl, hw, hK, hC, hN, h4, had, hou⟩ := X
  intro H locs ls hP hO hS hl
  subst hv
  exact lv_tableIn hx hb hd h1 h2 ho ht (K H locs ls hP hO hS hl)
theorem L_tsOut (X : OKL κ) {dflt lo hi : Int} {offs : Array Int} {len : Nat} {x : Int32} {tgt : Nat} (hd : decode code pc = .ok (.tableswitch dflt lo hi offs, len)) (h1 : x.toInt < lo ∨ hi < x.toInt) (ht : (pc : Int) + dflt = (tgt : Int)) (K : JL κ tgt L st h o i) : JL κ pc L (.inl x :: st) h o i := by
  obtain ⟨p, l, e, s, m, below, meth, c, w, b, Ln, xs⟩ := κ
  obtain ⟨hx, hb, hml, hr, hown, hts, hlk, hX, hbl, hw, hK, hC, hN, h4, had, hou⟩ := X
  intro H locs ls hP hO hS hl
  exact lv_tableOut hx hb hd h1 ht (K H locs ls hP hO hS hl)
/-- the script's length, an int of it -/
def kLn (κ : KL) : Nat := κ.2.2.2.2.2.2.2.2.2.2.1
def kXs (κ : KL) : Nat → Int32 := κ.2.2.2.2.2.2.2.2.2.2.2
theorem L_slen (X : OKL κ) (hd : decode code pc = .ok (.arraylength, 1)) (K : JL κ (pc + 1) L (.inl (Int32.ofNat (kLn κ)) :: st) h o i) : JL κ pc L (.inr (.inr 400) :: st) h o i := by
  obtain ⟨p, l, e, s, m, below, meth, c, w, b, Ln, xs⟩ := κ
  obtain ⟨hx, hb, hml, hr, hown, hts, hlk, hX, hbl, hw, hK, hC, hN, h4, had, hou⟩ := X
  intro H locs ls hP hO hS hl
  rw [List.map_cons, tv_ref (show 400 ≠ 0 by decide), h4]
  exact va_slen hx hb hX hbl (fun z => by unfold An at z; omega) hS hd (K H locs ls hP hO hS hl)
theorem L_sld (X : OKL κ) {k : Nat} {x : Int32} (hk : x = nI k) (hi : k < kLn κ) (hL : kLn κ < 2147483648) (hd : decode code pc = .ok (.iaload, 1)) (K : JL κ (pc + 1) L (.inl (kXs κ k) :: st) h o i) : JL κ pc L (.inl x :: .inr (.inr 400) :: st) h o i := by
  obtain ⟨p, l, e, s, m, below, meth, c, w, b, Ln, xs⟩ := κ
  obtain ⟨hx, hb, hml, hr, hown, hts, hlk, hX, hbl, hw, hK, hC, hN, h4, had, hou⟩ := X
  intro H locs ls hP hO hS hl
  have K := K H locs ls hP hO hS hl
  rw [List.map_cons, List.map_cons, tv_ref (show 400 ≠ 0 by decide), h4, hk]
  refine va_sld hx hb hX hbl (fun z => by unfold An at z; omega) hS (inb_in (inb_nI hi hL)) hd ?_
  rw [clp (Nat.lt_trans hi hL)]
  exact K
/-- an argument: the k-th int from j on -/
theorem L_arg (X : OKL κ) {j k n : Nat} {z : Int} {x : Int32} (hk : L[n]? = some (4, .inl (nI j))) (h0 : ∃ n0 : Nat, L[n0]? = some (0, .inr (.inr 400))) (hz : Int32.ofInt z = nI k) (hi : j + k < kLn κ) (hL : kLn κ < 2147483648) (d0 : decode code pc = .ok (.aload_n 0, 1)) (d1 : decode code (pc + 1) = .ok (.iload 4, 2)) (d2 : decode code (pc + 3) = .ok (.iconst z, 1)) (d3 : decode code (pc + 4) = .ok (.iadd, 1)) (d4 : decode code (pc + 5) = .ok (.iaload, 1)) (K : JL κ (pc + 6) L (.inl (kXs κ (j + k)) :: st) h o i) : JL κ pc L st h o i := by
  obtain ⟨n0, h0⟩ := h0
  refine L_aload_n X (k := 0) (j := n0) (k' := 0) (x := 400) (by decide) rfl h0 d0 ?_
  refine L_iload X hk d1 ?_
  refine L_iconst X hz d2 ?_
  refine L_iadd X d3 ?_
  exact L_sld X (nI_add j k) hi hL d4 K
theorem L_oald (X : OKL κ) (hd : decode code pc = .ok (.laload, 1)) (K : JL κ (pc + 1) L (.inr (.inl o) :: st) h o i) : JL κ pc L (.inl 0 :: .inr (.inr 401) :: st) h o i := by
  obtain ⟨p, l, e, s, m, below, meth, c, w, b, Ln, xs⟩ := κ
  obtain ⟨hx, hb, hml, hr, hown, hts, hlk, hX, hbl, hw, hK, hC, hN, h4, had, hou⟩ := X
  intro H locs ls hP hO hS hl
  have K := K H locs ls hP hO hS hl
  rw [List.map_cons, List.map_cons, tv_ref (show 401 ≠ 0 by decide)]
  exact va_lald hx hb hK hO 0 1 rfl rfl (inb_in (show inb 0 1 = true by decide)) hd K
theorem L_run {p : Program} {l : Launch} {e : Env} {s : State} {m : MethodId} {below : List Frame} {meth : Method} {c : Code} {w : Wd} {b Ln : Nat} {xs : Nat → Int32} {H : Heap} {locs : List Loc} {ls : Array Slot} {stk : List cv} {r1 : Option cv × Hp} {a : Array Value} (had : ∀ r, 1 ≤ r → r ≤ 185 → s.heap.size ≤ w.2.2 r ∧ w.2.2 r ≠ w.2.2 401) (hO : va_P w.1 vwCl (outW w o) H)
    (hr : va_Run p l e room_1 s m #[Value.ref b] below meth c H locs (lwC i) (lwS i) 0 0 (F0 m pc ls (stk.map (tv w))) (st.map (tv w)) (Qe w r1 a) (Aw w)) (hS : va_S (An s) s.heap H locs) (hl : lv_has ls 7 (L.map (tl w)))
    (K : JL (p, l, e, s, m, below, meth, c, w, b, Ln, xs) (pc + 3) L (r1.1.toList ++ st) r1.2 o i) : W p l e room_1 s m #[Value.ref b] below meth c H locs (lwC i) (lwS i) (lw_Z below #[Value.ref b] s) (F0 m pc ls (stk.map (tv w))) := by
  have aw : ∀ q, Aw w q → An s q := fun q hq => by
    obtain ⟨r, h1, h2, h3⟩ := hq
    show s.heap.size ≤ q
    rw [h3]
    exact (had r h1 h2).1
  intro T hT X
  obtain ⟨v, st₀, t, T', L2, h0, X', hL, e1, e2, ⟨hv, hWS, hz, hk⟩, stp⟩ := hr T hT X
  cases hv
  rw [h0] at hz hk
  have hP1 : va_P w.1 vwCl (wd w r1.2) T'.heap := by rw [e1]; exact hWS.1
  have hO1 : va_P w.1 vwCl (outW w o) T'.heap := hO.kept (fun k q hq => by
    have lt := (hO k q hq).lt
    rw [e1]
    refine hk q.1 lt (fun z => ?_)
    obtain ⟨r, h1, h2, h3⟩ := z
    have : q.1 = w.2.2 401 := by
      match k, hq with
      | 0, hq => cases hq; rfl
      | k + 1, hq => cases hq
    exact (had r h1 h2).2 (h3.symm.trans this))
  obtain ⟨t2, a1, b1⟩ := K T'.heap (locs ++ L2) ls hP1 hO1 ⟨Nat.le_trans hS.1 (by rw [e1]; exact hz), fun q h1 h2 => by rw [e1, hk q (Nat.lt_of_lt_of_le h1 hS.1) (fun z => h2 (aw q z))]; exact hS.2.1 q h1 h2, fun q hq => by
      rcases List.mem_append.mp hq with h | h
      · exact hS.2.2 q h
      · exact aw _ (hL q h)⟩ hl T' rfl X'
  refine ⟨t2, stp t2 ?_, b1⟩
  have e3 : (r1.1.map (tv w)).toList ++ st.map (tv w) = (r1.1.toList ++ st).map (tv w) := by
    rw [List.map_append]
    cases r1.1 <;> rfl
  rw [e3]
  exact a1
theorem L_WS {w : Wd} {h : Hp} {s U : State} {H : Heap} {locs : List Loc} (had : ∀ r, 1 ≤ r → r ≤ 185 → s.heap.size ≤ w.2.2 r ∧ w.2.2 r ≠ w.2.2 401) (hP : va_P w.1 vwCl (wd w h) H) (hS : va_S (An s) s.heap H locs) (hK : va_K w.1 vwCl (tys w) s) (hw : Wok w) (hC : Cst w s s.heap) (hN : Nw s) (ht : U.heap = H) (hW : s.WarmedH U.vm) : WS w h U := by
  refine ⟨by rw [ht]; exact hP, va_K.moved hW.alike hK, hw, ?_, hN.warmM hW⟩
  rw [ht]
  exact (hC.kept (fun a h1 _ => hS.2.1 a h1 (fun z => by unfold An at z; omega))).moved hW.alike
theorem L_callV (X : OKL κ) {y : MethodName} {cy : ByteArray} {ny : Nat} {ry : Option FieldType} {n ky idx a ci : Nat} {q : vw_C} {as stk st2 : List cv} {r1 : Option cv × Hp} {h2 : Hp} (hd : decode code pc = .ok (.invokevirtual idx, 3)) (hM : Cal y cy ny ry n) (hi : Cond.instanceMethod y ∈ tbl) (hs : Cond.selects y.cls y y ∈ tbl) (hl : Cond.methodLink "StruckWordsLaw" idx y ∈ tbl) (hk : ky + 1 ≤ 1300) (ha : lay a = some (.inl ci)) (hq : vwCl[ci]? = some q) (hqc : q.1 = y.cls) (hc : ∀ l w, CT l w y cy ny ry ky (.inr (.inr a) :: as) h r1) (hn : as.length = n) (hstk : stk = as.reverse ++ .inr (.inr a) :: st) (hct : ctS st ≤ 8) (e1 : r1.1.toList ++ st = st2) (e2 : r1.2 = h2) (K : JL κ (pc + 3) L st2 h2 o i) (hi5 : i ≤ 1000) : JL κ pc L stk h o i := by
  subst e1; subst e2
  obtain ⟨p, l, e, s, m, below, meth, c, w, b, Ln, xs⟩ := κ
  obtain ⟨hx, hb, hml, hr, hown, hts, hlk, hX, hbl, hw, hK, hC, hN, h4, had, hou⟩ := X
  intro H locs ls hP hO hS hls
  have e0 : tv w (.inr (.inr a)) = .ref (w.2.2 a) := tv_ref (by have := (lay_in ha).1; omega)
  have hcw : CallW room_1 s #[Value.ref b] "StruckWordsLaw" y.cls idx y cy ny ry (wsA y cy ny ry) (rmk ky) 0 0 n := ⟨cal_B hts hM hl (lv := 1300) (by decide) (by decide) hk, hts _ hi, hts _ hs⟩
  have hrc := va_recv hK hP hq ((wd_at ha).trans (by rw [cel_o ha]))
  rw [hqc] at hrc
  have hr := va_runV (locs := locs) (cells := lwC i) (slots := lwS i) (meth := meth) (e := e) (below := below) (b := w.2.2 a) (As := as.map (tv w)) (rest := st.map (tv w)) (g := F0 m pc ls (stk.map (tv w))) ⟨hx, hb, hml, hown, hts⟩ (hc l w) hcw
    ⟨WS_blind, hrc, fun U hU hW => ⟨by rw [List.map_cons, e0], L_WS had hP hS hK hw hC hN hU hW⟩⟩ rfl (by rw [List.length_map]; exact hn) hls.1 (by subst hstk; rw [rev_map, e0]) (by rw [ctS_ok]; show 2 * 0 + ctS st ≤ 8; omega) hd ⟨by show lwC i + 0 ≤ 601024; unfold lwC; omega, by show lwS i + 0 ≤ 7293034; unfold lwS; omega⟩
  exact L_run had hO hr hS hls K
/-- the law's end, with true -/
theorem L_end (X : OKL κ) (hi5 : i ≤ 1000) (hd : decode code pc = .ok (.iconst 1, 1)) (hd2 : decode code (pc + 1) = .ok (.ireturn, 1)) : JL κ pc L [] h o i := by
  obtain ⟨p, l, e, s, m, below, meth, c, w, b, Ln, xs⟩ := κ
  obtain ⟨hx, hb, hml, hr, hown, hts, hlk, hX, hbl, hw, hK, hC, hN, h4, had, hou⟩ := X
  intro H locs ls hP hO hS hl
  refine lv_iconst hx hb hd (show Int32.ofInt 1 = 1 by decide) ?_
  refine va_forget (fun q hq => hS.2.2 q hq) ?_
  refine W.widen (k := 601024) (n := 7293034) (by unfold lwC; omega) (by unfold lwS; omega) ?_
  exact lw_ret hx hb hr hlk hd2
end LLL
