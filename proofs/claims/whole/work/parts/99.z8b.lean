section SINI
variable {args : Array Value} {s : State}
theorem s_arr {ty : FieldType} (h : (Cond.arrayClass ty).before args s = true) : ∃ cA : ClassId, ArrOfT s cA ty ∧ s.vm.findClass ("[" ++ ty.toString) = some cA := by
  obtain ⟨c, k, comp, h1, h2, h3⟩ := Cond.arrayClass_spec h
  exact ⟨c, fun n z => ⟨fun k h => (by cases h), k, h2, comp, h3⟩, h1⟩
theorem s_over {C : String} (h : (Cond.arrayOver (.object C)).before args s = true) : ∃ cA : ClassId, ArrOfT s cA (.object C) ∧ va_RA s cA (.object C) := by
  obtain ⟨comp, c, k, h1, h2, h3, h4, h5⟩ := Cond.arrayOver_spec h
  exact ⟨c, fun n z => ⟨fun k h => (by cases h), k, h3, comp, h4⟩, k, comp, h3, h4, h1, h5⟩
/-- the classes' numbers, the arrays' -/
theorem s_K (hts : ∀ w ∈ lw_tbl, w.before args s = true) : ∃ (D : va_G) (T : Nat → ClassId), ∀ f : Nat → Nat, va_K D vwCl (tys (D, T, f)) s := by
  have ht : ∀ w ∈ tbl, w.before args s = true := fun w hw => hts w (List.mem_filter.mp hw).1
  have hk : ∀ c : Nat, ∃ r : ClassId × (Nat → Nat), ∀ q, vwCl[c]? = some q → u_Kn s q.1 q.2.1 q.2.2 r.1 r.2 := by
    intro c
    by_cases hc : c < 12
    · obtain ⟨q, hq⟩ : ∃ q, vwCl[c]? = some q := ⟨vwCl[c]'hc, List.getElem?_eq_getElem hc⟩
      obtain ⟨g1, g2⟩ := g_i c hc q hq
      obtain ⟨cC, iS, hK⟩ := u_known ht g1 (ht _ g2)
      exact ⟨(cC, iS), fun q' hq' => by cases Option.some.inj (hq.symm.trans hq'); exact hK⟩
    · exact ⟨(0, fun _ => 0), fun q hq => absurd (List.getElem?_eq_some_iff.mp hq).1 hc⟩
  obtain ⟨F, hF⟩ := Classical.axiomOfChoice hk
  obtain ⟨c0, a0, b0⟩ := s_arr (hts _ (g_r _ (List.mem_cons_of_mem _ (List.mem_cons_of_mem _ List.mem_cons_self))))
  obtain ⟨c1, a1, b1⟩ := s_arr (hts _ (g_r _ (List.mem_cons_of_mem _ (List.mem_cons_of_mem _ (List.mem_cons_of_mem _ List.mem_cons_self)))))
  obtain ⟨c2, a2, b2⟩ := s_arr (hts _ (g_r _ (List.mem_cons_of_mem _ (List.mem_cons_of_mem _ (List.mem_cons_of_mem _ (List.mem_cons_of_mem _ List.mem_cons_self))))))
  obtain ⟨c3, a3, b3⟩ := s_arr (hts _ (g_r _ (List.mem_cons_of_mem _ (List.mem_cons_of_mem _ (List.mem_cons_of_mem _ (List.mem_cons_of_mem _ (List.mem_cons_of_mem _ List.mem_cons_self)))))))
  obtain ⟨c4, a4, b4⟩ := s_over (hts _ (g_r _ List.mem_cons_self))
  obtain ⟨c5, a5, b5⟩ := s_over (hts _ (g_r _ (List.mem_cons_of_mem _ List.mem_cons_self)))
  refine ⟨(fun c => (F c).1, fun c => (F c).2), fun k => match k with | 0 => c0 | 1 => c1 | 2 => c2 | 3 => c3 | 4 => c4 | _ => c5, fun f => ⟨fun c q hq => hF c q hq, fun k q hq => ?_⟩⟩
  match k, hq with
  | 0, hq => cases hq; exact ⟨a0, b0⟩
  | 1, hq => cases hq; exact ⟨a1, b1⟩
  | 2, hq => cases hq; exact ⟨a2, b2⟩
  | 3, hq => cases hq; exact ⟨a3, b3⟩
  | 4, hq => cases hq; exact ⟨a4, b4⟩
  | 5, hq => cases hq; exact ⟨a5, b5⟩
  | k + 6, hq => cases hq
theorem s_N (hts : ∀ w ∈ lw_tbl, w.before args s = true) : NwA s ∧ Nw s :=
  ⟨⟨fun q hq => va_Nw.of rfl (hts _ (g_n.1 q hq)), va_AO.of (hts _ (g_r _ List.mem_cons_self)), va_AO.of (hts _ (g_r _ (List.mem_cons_of_mem _ List.mem_cons_self)))⟩, va_Nw.of rfl (hts _ g_n.2)⟩
theorem s_C (hts : ∀ w ∈ lw_tbl, w.before args s = true) (hg : (given_1.and narrow_1).before args s = true) : ∃ (ad : Nat → Nat) (tA tS : Nat), va_En gE gD kwN kwF ad (An s) s s.heap ∧ va_Z gE "ALL" "[LStruckWords$Keyword;" (.ref tA) (An s) s s.heap ∧ va_T (.object gE) tA 16 (fun j => .ref (ad j)) (An s) s s.heap ∧ va_Z "StruckWords$1" gM "[I" (.ref tS) (An s) s s.heap ∧ va_T .int tS 16 (fun j => .int (swT.getD j 0)) (An s) s s.heap := by
  have hs := flat_of_before _ hg
  have hA : ∀ a : Nat, a < s.heap.size → ¬ An s a := fun a ha z => by unfold An at z; omega
  obtain ⟨ad, h1, h2⟩ := va_Enof2 (args := args) (s := s) (E := gE) (d := gD) (nm := kwN) (F := kwF) (A := An s) (fun i hi => hts _ (g_ls i hi)) (hts _ (g_w _ List.mem_cons_self)) (fun i hi => hs _ (g_ex i hi)) (fun q hq i hi => hs _ (g_f q hq i hi)) (fun i j hi hj hij => by
    rcases Nat.lt_or_gt_of_ne hij with z | z
    · rcases g_ne j hj i z with w | w
      · exact Or.inr (hs _ w)
      · exact Or.inl (hs _ w)
    · rcases g_ne i hi j z with w | w
      · exact Or.inl (hs _ w)
      · exact Or.inr (hs _ w)) hA
  obtain ⟨tA, e1, t1⟩ := va_Tof (args := args) (s := s) (tm := .static gE "ALL" "[LStruckWords$Keyword;") (ty := .object gE) (N := 16) (f := fun j => .ref (ad j)) (A := An s) (by decide) (hs _ (g_a _ List.mem_cons_self)) (Cond.eq_int (hs _ (g_a _ (List.mem_cons_of_mem _ List.mem_cons_self))) rfl) (fun j hj => Cond.eq_refs (hs _ (g_el j hj)) (h2 j hj) rfl) hA
  obtain ⟨tS, e2, t2⟩ := va_Tof (args := args) (s := s) (tm := .static "StruckWords$1" gM "[I") (ty := .int) (N := 16) (f := fun j => .int (swT.getD j 0)) (A := An s) (by decide) (hs _ (g_a _ (List.mem_cons_of_mem _ (List.mem_cons_of_mem _ List.mem_cons_self)))) (Cond.eq_int (hs _ (g_a _ (List.mem_cons_of_mem _ (List.mem_cons_of_mem _ (List.mem_cons_of_mem _ List.mem_cons_self))))) rfl) (fun j hj => Cond.eq_int (hs _ (g_sw j hj)) rfl) hA
  exact ⟨ad, tA, tS, h1, va_Zof (hts _ (g_w _ (List.mem_cons_of_mem _ (List.mem_cons_of_mem _ List.mem_cons_self)))) (hts _ (g_w _ List.mem_cons_self)) e1 hA, t1, va_Zof (hts _ (g_w _ (List.mem_cons_of_mem _ (List.mem_cons_of_mem _ (List.mem_cons_of_mem _ List.mem_cons_self))))) (hts _ (g_w _ (List.mem_cons_of_mem _ List.mem_cons_self))) e2 hA, t2⟩
theorem s_T {w : Wd} (hts : ∀ w ∈ lw_tbl, w.before args s = true) (hg : (given_1.and narrow_1).before args s = true) (hw : ∀ r, 1 ≤ r → r ≤ 185 → s.heap.size ≤ w.2.2 r) : TXs w s := by
  have hs := flat_of_before _ hg
  have hA : ∀ a : Nat, a < s.heap.size → ¬ Aw w a := fun a ha z => by
    obtain ⟨r, r1, r2, r3⟩ := z
    have := hw r r1 r2
    omega
  have t : ∀ w ∈ ([.stringRef "StruckWords" 104 "no such saying, or nothing such of it", .stringRef "StruckWords" 233 "no such meaning, or neither above nor below", .castable xE xE, .declares (Bundle.initS xR), .declares (Bundle.initS "java/lang/Exception"), .declares (Bundle.initS Bundle.tN), .laysStatic Bundle.tN "UNASSIGNED_STACK" Bundle.steD, .laysStatic Bundle.tN "SUPPRESSED_SENTINEL" Bundle.listD, .initialized Bundle.tN] : List Cond), w.before args s = true := fun w hw => hts w (g_t w hw)
  obtain ⟨a1, -, -, -, e1, -⟩ := Cond.exactly_spec (hs _ (g_x _ List.mem_cons_self))
  obtain ⟨a2, -, -, -, e2, -⟩ := Cond.exactly_spec (hs _ (g_x _ (List.mem_cons_of_mem _ List.mem_cons_self)))
  have i1 := hs _ (g_x _ (List.mem_cons_of_mem _ (List.mem_cons_of_mem _ List.mem_cons_self)))
  have i2 := hs _ (g_x _ (List.mem_cons_of_mem _ (List.mem_cons_of_mem _ (List.mem_cons_of_mem _ List.mem_cons_self))))
  exact ⟨⟨⟨a1, vk_R.of (t _ (by simp)) e1⟩, ⟨a2, vk_R.of (t _ (by simp)) e2⟩⟩, ⟨va_Nw.of rfl (t _ (by simp)), va_Nw.of rfl (t _ (by simp)), va_Nw.of rfl (t _ (by simp)), va_Nw.of rfl (t _ (by simp))⟩, vx_Zqof (t _ (by simp)) (t _ (by simp)) i1 hA, vx_Zqof (t _ (by simp)) (t _ (by simp)) i2 hA⟩
end SINI
