section UNGC
variable {tp : List Nat} {ρ σ : Nat → Nat} {nS nK nm : Nat → List Nat} {h h' : Hp} {s ed ck : Nat}
/-- the class while it reads a TONGUE -/
def SC (tp : List Nat) (s : Nat) (ρ : Nat → Nat) (nS nK nm : Nat → List Nat) (ed ck : Nat) (h : Hp) : Prop :=
  CT1 tp 900 s h ∧ RgC h 142 ρ nS nK nm ∧ h.2.2 4 1 = 142 ∧ h.1 4 2 = nI ed ∧ h.1 4 3 = nI ck ∧ h.1 4 4 = nI 0
/-- the reference while it reads one -/
def SM (tp : List Nat) (s : Nat) (ρ : Nat → Nat) (nS nK nm : Nat → List Nat) (ed ck : Nat) (h : Hp) : Prop :=
  MT1 tp 900 s h ∧ RgM h ρ nS nK nm ∧ (∀ k, k < 16 → h.2.1 160 k = lN (resv.getD k 0)) ∧ h.1 155 19 = nI ck ∧ h.1 155 20 = nI ed ∧ h.1 155 14 = nI 0
/-- the numbers as they may be -/
def SO (tp : List Nat) (s : Nat) (ρ : Nat → Nat) (nS nK nm : Nat → List Nat) (ed ck : Nat) : Prop := Tp tp ∧ RgOk ρ nS nK nm ∧ s ≤ tp.length ∧ ed ≤ 1 ∧ ck < 64
def unC : List Nat := [4, 5, 142, 143, 144, 145, 146, 147, 148, 149, 150, 151, 152]
/-- what the reference's reading leaves as it was -/
def unM (h h' : Hp) : Prop := Same [155, 158, 159] h h' ∧ (∀ j, j ∉ [4, 10, 11, 12, 13, 14, 15, 17, 18, 19, 20] → h'.1 155 j = h.1 155 j) ∧ (∀ j, j ≠ 16 → h'.2.1 155 j = h.2.1 155 j) ∧ ∀ j, j < 16 → h'.2.1 159 j = h.2.1 159 j
theorem unM.rf : unM h h := ⟨Same.rf, fun _ _ => rfl, fun _ _ => rfl, fun _ _ => rfl⟩
theorem unM.tr {h1 h2 h3 : Hp} (a : unM h1 h2) (b : unM h2 h3) : unM h1 h3 := ⟨a.1.tr b.1, fun j hj => (b.2.1 j hj).trans (a.2.1 j hj), fun j hj => (b.2.2.1 j hj).trans (a.2.2.1 j hj), fun j hj => (b.2.2.2 j hj).trans (a.2.2.2 j hj)⟩
theorem unM.ofI155 {k : Nat} {v : Int32} (hk : k ∈ [4, 10, 11, 12, 13, 14, 15, 17, 18, 19, 20]) : unM h (sI h 155 k v) := ⟨Same.ofI (by decide), fun j hj => sI_nk1 (fun z => hj (z ▸ hk)), fun _ _ => rfl, fun _ _ => rfl⟩
theorem unM.ofI158 {k : Nat} {v : Int32} : unM h (sI h 158 k v) := ⟨Same.ofI (by decide), fun j _ => sI_ne1 (by decide), fun _ _ => rfl, fun _ _ => rfl⟩
theorem unM.ofL159 {k : Nat} {v : Int64} (hk : 16 ≤ k) : unM h (sL h 159 k v) := ⟨Same.ofL (by decide), fun _ _ => rfl, fun j _ => sL_ne1 (by decide), fun j hj => sL_nk1 (by omega)⟩
theorem unM.fault {k q : Nat} : unM h (mfF h k q) := (unM.ofI155 (by decide)).tr (unM.ofI155 (by decide))
theorem gfF_U (g : Hp) (k q : Nat) : Same unC g (gfF g k q) := (Same.ofI (by decide)).tr (Same.ofI (by decide))
theorem SC.adv (T : Tp tp) (hs : s ≤ tp.length) (C : SC tp s ρ nS nK nm ed ck h) : ∃ h', f_X9_advance h = some h' ∧ Same unC h h' ∧ SC tp (tkB tp 900 (tkX tp 900 s)) ρ nS nK nm ed ck h' := by
  obtain ⟨c1, c2, c3, c4, c5, c6⟩ := C
  obtain ⟨h', e, s1, s2, s3⟩ := c_adv (L := 900) T (by omega) hs c1
  refine ⟨h', e, s1.mono (fun a h1 => by simp only [List.mem_cons, List.not_mem_nil, or_false] at h1; subst h1; decide), s3, c2.same s1 (fun a h1 h2 => by simp only [List.mem_cons, List.not_mem_nil, or_false]; omega), ?_, ?_, ?_, ?_⟩
  · rw [(s1 4 (by decide)).2.2]; exact c3
  · rw [(s1 4 (by decide)).1]; exact c4
  · rw [(s1 4 (by decide)).1]; exact c5
  · rw [(s1 4 (by decide)).1]; exact c6
theorem SM.nx (T : Tp tp) (M : SM tp s ρ nS nK nm ed ck h) : ∃ h', f_X13_next h = some h' ∧ unM h h' ∧ (∀ j, j ∉ [4, 10, 11, 12, 13, 14, 15] → h'.1 155 j = h.1 155 j) ∧ SM tp (tkB tp 900 (tkX tp 900 s)) ρ nS nK nm ed ck h' := by
  obtain ⟨c1, c2, c3, c4, c5, c6⟩ := M
  obtain ⟨h', e, s1, s2, s4, s3⟩ := m_nx (L := 900) T (by omega) c1
  refine ⟨h', e, ⟨s1.mono (fun a h1 => by simp only [List.mem_cons, List.not_mem_nil, or_false] at h1 ⊢; omega), fun j hj => s2.1 j (fun z => hj ?_), s2.2, fun j _ => by rw [(s1 159 (by decide)).2.1]⟩, s2.1, s3, c2.same s1 (by decide), ?_, ?_, ?_, ?_⟩
  · simp only [List.mem_cons, List.not_mem_nil, or_false] at z ⊢
    omega
  · rw [(s1 160 (by decide)).2.1]; exact c3
  · rw [s2.1 19 (by decide)]; exact c4
  · rw [s2.1 20 (by decide)]; exact c5
  · rw [s4]; exact c6
theorem tkB_ok (T : Tp tp) (O : SO tp s ρ nS nK nm ed ck) : SO tp (tkB tp 900 (tkX tp 900 s)) ρ nS nK nm ed ck := ⟨O.1, O.2.1, (tkB_le tp 900 _).1, O.2.2.2.1, O.2.2.2.2⟩
/-- both have failed alike -/
def bad2 (gc gm : Hp) (rc rm : Option (Int32 × Hp)) : Prop := ∃ k q gc' gm', rc = some (0, gc') ∧ rm = some (0, gm') ∧ 1 ≤ k ∧ k ≤ 4 ∧ q ≤ 1000 ∧ gc'.1 4 4 = nI k ∧ gc'.1 4 5 = nI q ∧ gm'.1 155 14 = nI k ∧ gm'.1 155 15 = nI q ∧ Same unC gc gc' ∧ unM gm gm'
theorem bad_here {gc gm : Hp} {k : Nat} (hs : s ≤ 1000) (hk : 1 ≤ k ∧ k ≤ 4) : bad2 gc gm (some (0, gfF gc k s)) (some (0, mfF gm k s)) := ⟨k, s, _, _, rfl, rfl, hk.1, hk.2, hs, gfF_4 gc k s, gfF_5 gc k s, mfF_14 gm k s, mfF_15 gm k s, gfF_U gc k s, unM.fault⟩
theorem bad2.tr {gc gm gc1 gm1 : Hp} {rc rm : Option (Int32 × Hp)} (b : bad2 gc1 gm1 rc rm) (h1 : Same unC gc gc1) (h2 : unM gm gm1) : bad2 gc gm rc rm := by
  obtain ⟨k, q, gc', gm', a1, a2, a3, a4, a5, a6, a7, a8, a9, a10, a11⟩ := b
  exact ⟨k, q, gc', gm', a1, a2, a3, a4, a5, a6, a7, a8, a9, h1.tr a10, h2.tr a11⟩
/-- both have read on alike -/
def good2 (tp : List Nat) (s : Nat) (gc gm : Hp) (rc rm : Option (Int32 × Hp)) : Prop := ∃ s' ρ nS nK nm ed ck gc' gm', rc = some (1, gc') ∧ rm = some (1, gm') ∧ s ≤ s' ∧ SO tp s' ρ nS nK nm ed ck ∧ SC tp s' ρ nS nK nm ed ck gc' ∧ SM tp s' ρ nS nK nm ed ck gm' ∧ gm'.1 155 18 = gm.1 155 18 ∧ Same unC gc gc' ∧ unM gm gm'
theorem tkB_ge {L : Nat} (hs : s ≤ min tp.length L) : s ≤ tkB tp L (tkX tp L s) := by
  have a : s ≤ tkX tp L s := by
    unfold tkX
    by_cases h1 : s < min tp.length L
    · rw [if_pos h1]; omega
    · rw [if_neg h1]; omega
  have b : tkX tp L s ≤ to1 isBl tp tp.length (tkX tp L s) := Nat.le_add_right _ _
  unfold tkB
  omega
end UNGC
