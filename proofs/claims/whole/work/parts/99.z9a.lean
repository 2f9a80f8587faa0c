/-! ===== the start: class and reference stand alike ===== -/
section ZIN
theorem iniK_x {c : Hp → Bool} (h : iniK c = true) : ∃ g q, fA_X12_init 1 (1, 1, 0, nw hz0 1) = some g ∧ g.1 = 154 ∧ fA_X13_init 155 (155, 155, 0, nw g.2.2.2 155) = some q ∧ q.1 = 185 ∧ c q.2.2.2 = true := by
  unfold iniK at h
  generalize fA_X12_init 1 (1, 1, 0, nw hz0 1) = z at h ⊢
  cases z with
  | none => cases h
  | some g =>
    dsimp only at h
    rw [Bool.and_eq_true] at h
    obtain ⟨h1, h2⟩ := h
    refine ⟨g, ?_⟩
    generalize fA_X13_init 155 (155, 155, 0, nw g.2.2.2 155) = y at h2 ⊢
    cases y with
    | none => cases h2
    | some q =>
      dsimp only at h2
      rw [Bool.and_eq_true] at h2
      exact ⟨q, rfl, of_decide_eq_true h1, rfl, of_decide_eq_true h2.1, h2.2⟩
/-- what both runs come to -/
theorem ini_run : ∃ g q, fA_X12_init 1 (1, 1, 0, nw hz0 1) = some g ∧ g.1 = 154 ∧ fA_X13_init 155 (155, 155, 0, nw g.2.2.2 155) = some q ∧ q.1 = 185 ∧ ∀ c : Hp → Bool, iniK c = true → c q.2.2.2 = true := by
  obtain ⟨g, q, e1, e2, e3, e4, -⟩ := iniK_x ik_a
  refine ⟨g, q, e1, e2, e3, e4, fun c hc => ?_⟩
  obtain ⟨g', q', f1, f2, f3, f4, f5⟩ := iniK_x hc
  have hg : g = g' := Option.some.inj (e1.symm.trans f1)
  subst hg
  have hq : q = q' := Option.some.inj (e3.symm.trans f3)
  subst hq
  exact f5
theorem all_r {n : Nat} {f : Nat → Bool} (h : (List.range n).all f = true) {i : Nat} (hi : i < n) : f i = true := List.all_eq_true.mp h i (List.mem_range.mpr hi)
theorem pl_z : (∀ k, k < 5 → ahd plT k = 0) ∧ ens plT = 0 ∧ (∀ w, w < 8 → rds plT w = 0) ∧ idl plT = 0 ∧ ∀ i, i < 320 → mk plT i = i % 8 := by decide +kernel
theorem ini_Inv {h : Hp} (H : ∀ c : Hp → Bool, iniK c = true → c h = true) : Inv h := by
  have hc0 := H _ ik_c
  have hd0 := H _ ik_d
  have he0 := H _ ik_e0
  have he1 := H _ ik_e1
  have he2 := H _ ik_e2
  have he3 := H _ ik_e3
  have hf0 := H _ ik_f0
  have hf1 := H _ ik_f1
  have hf2 := H _ ik_f2
  have hf3 := H _ ik_f3
  have hf4 := H _ ik_f4
  have hf5 := H _ ik_f5
  rw [Bool.and_eq_true] at hc0 hd0
  obtain ⟨hc0, h123⟩ := hc0
  have h123 := of_decide_eq_true h123
  have hc : ∀ t ∈ ck1, h.1 t.1 t.2.1 = nI t.2.2 := fun t ht => of_decide_eq_true (List.all_eq_true.mp hc0 t ht)
  obtain ⟨hd0, hd1⟩ := hd0
  rw [Bool.and_eq_true] at hd1
  obtain ⟨hd1, hd2⟩ := hd1
  have d11 : ∀ k, k < 5 → h.2.1 11 k = lN 0 := fun k hk => of_decide_eq_true (all_r hd0 hk)
  have d160 : ∀ k, k < 16 → h.2.1 160 k = lN (resv.getD k 0) := fun k hk => of_decide_eq_true (all_r hd2 hk)
  have c16 : ∀ i, i < 320 → h.1 16 i = nI (i % 8) := by
    intro i hi
    rcases (show i < 80 ∨ (80 ≤ i ∧ i < 160) ∨ (160 ≤ i ∧ i < 240) ∨ (240 ≤ i ∧ i < 320) by omega) with z | z | z | z
    · have := of_decide_eq_true (all_r he0 z); rw [Nat.zero_add] at this; exact this
    · have := of_decide_eq_true (all_r he1 (show i - 80 < 80 by omega)); rw [show 80 + (i - 80) = i by omega] at this; exact this
    · have := of_decide_eq_true (all_r he2 (show i - 160 < 80 by omega)); rw [show 160 + (i - 160) = i by omega] at this; exact this
    · have := of_decide_eq_true (all_r he3 (show i - 240 < 80 by omega)); rw [show 240 + (i - 240) = i by omega] at this; exact this
  have c157 : ∀ i, i < 713 → h.1 157 i = nI (plT i) := by
    intro i hi
    rcases (show i < 120 ∨ (120 ≤ i ∧ i < 240) ∨ (240 ≤ i ∧ i < 360) ∨ (360 ≤ i ∧ i < 480) ∨ (480 ≤ i ∧ i < 600) ∨ (600 ≤ i ∧ i < 720) by omega) with z | z | z | z | z | z
    · have := of_decide_eq_true (all_r hf0 z); rw [Nat.zero_add] at this; exact this
    · have := of_decide_eq_true (all_r hf1 (show i - 120 < 120 by omega)); rw [show 120 + (i - 120) = i by omega] at this; exact this
    · have := of_decide_eq_true (all_r hf2 (show i - 240 < 120 by omega)); rw [show 240 + (i - 240) = i by omega] at this; exact this
    · have := of_decide_eq_true (all_r hf3 (show i - 360 < 120 by omega)); rw [show 360 + (i - 360) = i by omega] at this; exact this
    · have := of_decide_eq_true (all_r hf4 (show i - 480 < 120 by omega)); rw [show 480 + (i - 480) = i by omega] at this; exact this
    · have := of_decide_eq_true (all_r hf5 (show i - 600 < 120 by omega)); rw [show 600 + (i - 600) = i by omega] at this; exact this
  obtain ⟨pa, pe, pr, pi, pm⟩ := pl_z
  have p2 : plT 2 = 0 := by decide
  have p437 : plT 437 = 0 := by decide
  have p462 : plT 462 = 0 := by decide
  refine ⟨[], plT, fun _ => [], fun _ => none, [], 0, none, ⟨⟨by decide, fun x hx => (nomatch hx)⟩, ⟨?_, ?_, by rw [p462]; decide, fun c hc => ?_⟩, fun k q _ hq => (by cases hq), by decide, by decide, fun x hx => (nomatch hx), fun q hq => (by cases hq)⟩, ⟨⟨hc (2, 1, 0) (by decide), fun i hi => (nomatch hi)⟩, ⟨?_, ⟨?_, fun k hk => ?_⟩, ?_, fun c hc => ?_⟩, fun k hk => ?_, hc (1, 11, 0) (by decide), ⟨hc (140, 1, 0) (by decide), fun i hi => (nomatch hi)⟩, hc (133, 0, 0) (by decide), h123⟩, ⟨⟨hc (155, 2, 0) (by decide), fun i hi => (nomatch hi)⟩, c157, fun w hw => ?_, fun k hk => ?_, hc (155, 14, 0) (by decide), ⟨hc (155, 42, 0) (by decide), fun i hi => (nomatch hi)⟩, hc (155, 53, 0) (by decide), d160, Or.inl (hc (155, 31, 1) (by decide))⟩⟩
  · exact (plT_ok (fun _ => []) (fun _ => []) (fun _ => [])).1
  · exact ⟨by rw [p437]; decide, fun k hk => by rw [p437] at hk; exact absurd hk (by omega)⟩
  · rw [p462] at hc; exact absurd hc (by omega)
  · refine ⟨⟨hc (7, 0, 0) (by decide), hc (7, 1, 0) (by decide), hc (7, 2, 0) (by decide), hc (9, 0, 3) (by decide), hc (9, 1, 1) (by decide)⟩, fun w hw => ?_, fun b b1 b2 => ?_, ⟨fun k hk => ?_, ?_⟩, fun w hw => ?_, ⟨fun w hw => ?_, ?_⟩, fun i hi => ?_, fun z => absurd p2 z⟩
    · rw [p2] at hw; exact absurd hw (by omega)
    · rw [plT_c b1 b2]
      rcases (show b = 1 ∨ b = 2 ∨ b = 3 ∨ b = 4 ∨ b = 5 by omega) with rfl | rfl | rfl | rfl | rfl
      · exact hc (10, 1, 1) (by decide)
      · exact hc (10, 2, 1) (by decide)
      · exact hc (10, 3, 1) (by decide)
      · exact hc (10, 4, 1) (by decide)
      · exact hc (10, 5, 1) (by decide)
    · rw [pa k hk]; exact d11 k hk
    · rw [pe]; exact of_decide_eq_true hd1
    · rw [p2] at hw; exact absurd hw (by omega)
    · rw [pr w hw]
      rcases (show w = 0 ∨ w = 1 ∨ w = 2 ∨ w = 3 ∨ w = 4 ∨ w = 5 ∨ w = 6 ∨ w = 7 by omega) with rfl | rfl | rfl | rfl | rfl | rfl | rfl | rfl
      · exact hc (15, 0, 0) (by decide)
      · exact hc (15, 1, 0) (by decide)
      · exact hc (15, 2, 0) (by decide)
      · exact hc (15, 3, 0) (by decide)
      · exact hc (15, 4, 0) (by decide)
      · exact hc (15, 5, 0) (by decide)
      · exact hc (15, 6, 0) (by decide)
      · exact hc (15, 7, 0) (by decide)
    · rw [pi]; exact hc (7, 11, 0) (by decide)
    · rw [pm i hi]; exact c16 i hi
  · rw [p437]; exact hc (18, 1, 0) (by decide)
  · rw [p437] at hk; exact absurd hk (by omega)
  · rw [p462]; exact hc (6, 3, 0) (by decide)
  · rw [p462] at hc; exact absurd hc (by omega)
  · rcases (show k = 0 ∨ k = 1 by omega) with rfl | rfl
    · exact hc (112, 0, 0) (by decide)
    · exact hc (112, 1, 0) (by decide)
  · rw [p2] at hw; exact absurd hw (by omega)
  · rcases (show k = 0 ∨ k = 1 by omega) with rfl | rfl
    · exact hc (185, 0, 0) (by decide)
    · exact hc (185, 1, 0) (by decide)
theorem ini_R {h : Hp} (H : ∀ c : Hp → Bool, iniK c = true → c h = true) : ∀ r, 1 ≤ r → r ≤ 185 → chkR h r = true := by
  intro r r1 r2
  have ha := H _ ik_a
  have hb := H _ ik_b
  by_cases z : r ≤ 100
  · have := all_r ha (show r - 1 < 100 by omega)
    rw [show r - 1 + 1 = r by omega] at this
    exact this
  · have := all_r hb (show r - 101 < 85 by omega)
    rw [show r - 101 + 101 = r by omega] at this
    exact this
end ZIN
