/-! ===== what of the reference's cells matters ===== -/
def EqM (h h' : Hp) : Prop := (∀ a ∈ [156, 157, 164, 165, 166, 176, 179, 180, 183, 185], h'.1 a = h.1 a) ∧ (∀ a ∈ [159, 160, 184], h'.2.1 a = h.2.1 a) ∧ (∀ j ∈ [2, 14, 31, 42, 51, 53], h'.1 155 j = h.1 155 j) ∧ h'.2.1 155 52 = h.2.1 155 52
theorem EqM.rf {h : Hp} : EqM h h := ⟨fun _ _ => rfl, fun _ _ => rfl, fun _ _ => rfl, rfl⟩
theorem EqM.tr {h h1 h2 : Hp} (a : EqM h h1) (b : EqM h1 h2) : EqM h h2 := ⟨fun q hq => (b.1 q hq).trans (a.1 q hq), fun q hq => (b.2.1 q hq).trans (a.2.1 q hq), fun q hq => (b.2.2.1 q hq).trans (a.2.2.1 q hq), b.2.2.2.trans a.2.2.2⟩
theorem EqM.ofI {h : Hp} {a k : Nat} {v : Int32} (h1 : a ∉ [156, 157, 164, 165, 166, 176, 179, 180, 183, 185]) (h2 : a = 155 → k ∉ [2, 14, 31, 42, 51, 53]) : EqM h (sI h a k v) := ⟨fun q hq => funext fun j => sI_ne1 (fun z => h1 (z ▸ hq)), fun _ _ => rfl, fun j hj => by
  by_cases ha : 155 = a
  · exact sI_nk1 (fun z => h2 ha.symm (z ▸ hj))
  · exact sI_ne1 ha, rfl⟩
theorem EqM.ofL {h : Hp} {a k : Nat} {v : Int64} (h1 : a ∉ [159, 160, 184]) (h2 : a = 155 → k ≠ 52) : EqM h (sL h a k v) := ⟨fun _ _ => rfl, fun q hq => funext fun j => sL_ne1 (fun z => h1 (z ▸ hq)), fun _ _ => rfl, by
  by_cases ha : 155 = a
  · exact sL_nk1 (fun z => h2 ha.symm z.symm)
  · exact sL_ne1 ha⟩
section MRs
variable {tp : List Nat} {σ : Nat → Nat} {nm : Nat → List Nat} {K : Im} {fd : List Nat} {fl : Nat} {tn : Option Tn} {h h' : Hp}
theorem MR.keep (H : MR tp σ nm K fd fl tn h) (e : EqM h h') : MR tp σ nm K fd fl tn h' := by
  obtain ⟨e1, e2, e3, e4⟩ := e
  unfold MR Cache
  rw [e1 156 (by decide), e1 157 (by decide), e1 176 (by decide), e1 179 (by decide), e1 180 (by decide), e1 183 (by decide), e1 185 (by decide), e1 164 (by decide), e1 165 (by decide), e1 166 (by decide), e2 159 (by decide), e2 160 (by decide), e2 184 (by decide), e3 2 (by decide), e3 14 (by decide), e3 31 (by decide), e3 42 (by decide), e3 51 (by decide), e3 53 (by decide), e4]
  exact H
/-- thrown is 0, or 1: nothing else -/
theorem th_Eq (v : Int32) : EqM h (sI h 155 0 v) := EqM.ofI (by decide) (fun _ => by decide)
theorem th_Lo (v : Int32) : Lo h (sI h 155 0 v) := (Same.ofI (X := [155]) (by decide)).lo (by decide)
/-! ===== the calls, one by one ===== -/
theorem AbOk.tape {tp2 : List Nat} (hA : AbOk tp σ nm K fd fl tn) (h1 : tp2.length ≤ 940) (h2 : ∀ x ∈ tp2, x < 256) : AbOk tp2 σ nm K fd fl tn := ⟨⟨h1, h2⟩, hA.2⟩
theorem CR.tape {tp2 : List Nat} (hA : AbOk tp σ nm K fd fl tn) (H : CR tp σ nm K fd fl tn h) (hs : Same [2, 3] h h') (h1 : h'.1 2 1 = nI tp2.length) (h2 : lsI (h'.1 3) tp2) : CR tp2 σ nm K fd fl tn h' := by
  obtain ⟨a, b, c, d, f, g, k⟩ := H
  have e : ∀ q, q ∉ [2, 3] → h'.1 q = h.1 q := fun q h2 => (hs q h2).1
  refine ⟨⟨h1, h2⟩, ?_, ?_, ?_, ?_, ?_, ?_⟩
  · exact b.kept hA.2.1.2.2.1 (fun q h1 h2 => ⟨(hs q (by simp; omega)).1, (hs q (by simp; omega)).2.1⟩)
  · intro i hi
    have ci := c i hi
    have hK := hA.2.2.1 i
    cases hk : K i with
    | none =>
      rw [hk] at ci
      show h'.1 112 i = 0
      rw [e 112 (by decide)]
      exact ci
    | some q =>
      rw [hk] at ci
      show h'.1 112 i = 1 ∧ MatRep h' (42 + 35 * i) q.1 q.2
      rw [e 112 (by decide)]
      exact ⟨ci.1, ci.2.kept (hK q hi hk).2.2.1 (fun z h1 h2 => ⟨(hs z (by simp; omega)).1, (hs z (by simp; omega)).2.1⟩)⟩
  · rw [e 1 (by decide)]; exact d
  · rw [e 140 (by decide), e 141 (by decide)]; exact f
  · rw [e 133 (by decide), e 134 (by decide), e 135 (by decide), (hs 133 (by decide)).2.1]; exact g
  · rw [e 123 (by decide)]; exact k
theorem MR.tape {tp2 : List Nat} (H : MR tp σ nm K fd fl tn h) (hs : Same [155, 156] h h') (hf : ∀ j, j ≠ 2 → h'.1 155 j = h.1 155 j) (h1 : h'.1 155 2 = nI tp2.length) (h2 : lsB (h'.1 156) tp2) (hL : h'.2.1 155 = h.2.1 155) : MR tp2 σ nm K fd fl tn h' := by
  obtain ⟨a, b, c, d, f, g, k, m, n⟩ := H
  have e : ∀ q, q ∉ [155, 156] → h'.1 q = h.1 q := fun q h2 => (hs q h2).1
  have l : ∀ q, q ∉ [155, 156] → h'.2.1 q = h.2.1 q := fun q h2 => (hs q h2).2.1
  refine ⟨⟨h1, h2⟩, ?_⟩
  unfold Cache
  rw [e 157 (by decide), e 176 (by decide), e 179 (by decide), e 180 (by decide), e 183 (by decide), e 185 (by decide), e 164 (by decide), e 165 (by decide), e 166 (by decide), l 159 (by decide), l 160 (by decide), l 184 (by decide), hL, hf 14 (by decide), hf 31 (by decide), hf 42 (by decide), hf 51 (by decide), hf 53 (by decide)]
  exact ⟨b, c, d, f, g, k, m, n⟩
theorem st_end (x : Int32) (hI : Inv h) : ∃ v h1 h2, f_X12_end x h = some (v, h1) ∧ f_X13_end x h1 = some (v, h2) ∧ Inv h2 := by
  obtain ⟨tp, σ, nm, K, fd, fl, tn, hA, hC, hM⟩ := hI
  have hc := hC.1
  have ht := hA.1.1
  by_cases h1 : x < 0
  · refine ⟨0, h, sI h 155 0 0, ?_, ?_, tp, σ, nm, K, fd, fl, tn, hA, hC.lo hA (th_Lo 0), hM.keep (th_Eq 0)⟩
    · unfold f_X12_end; rw [if_pos h1]
    · unfold f_X13_end; rw [lt_s0, if_pos h1]
  · by_cases h2 : x ≤ nI tp.length
    · obtain ⟨j, -, hj, rfl⟩ := in_range (a := 0) (b := tp.length) (by decide) (by omega) h1 (by rw [Int32.not_lt]; exact h2)
      have len : (tp.take j).length = j := by rw [List.length_take]; omega
      have gt : ∀ i, i < j → (tp.take j).getD i 0 = tp.getD i 0 := fun i hi => by
        rw [List.getD_eq_getElem?_getD, List.getD_eq_getElem?_getD, List.getElem?_take_of_lt hi]
      have hA2 : AbOk (tp.take j) σ nm K fd fl tn := hA.tape (by omega) (fun x hx => hA.1.2 x (List.mem_of_mem_take hx))
      have c1 : CR (tp.take j) σ nm K fd fl tn (sI h 2 1 (nI j)) := by
        refine hC.tape hA (Same.ofI (by decide)) (by rw [sI_s, len]) ?_
        intro i hi
        rw [len] at hi
        rw [sI_ne1 (by decide), hc.2 i (by omega), gt i hi]
      have m1 : MR tp σ nm K fd fl tn (sI (sI h 2 1 (nI j)) 155 0 0) := (hM.hi ((Same.ofI (X := [2]) (by decide)).hi (by decide))).keep (th_Eq 0)
      refine ⟨1, sI h 2 1 (nI j), sI (sI (sI h 2 1 (nI j)) 155 0 0) 155 2 (nI j), ?_, ?_, tp.take j, σ, nm, K, fd, fl, tn, hA2, ?_, ?_⟩
      · unfold f_X12_end; rw [if_neg h1, hc.1, if_pos h2, lt_s0]
      · unfold f_X13_end; rw [lt_s0, if_neg h1, m1.1.1, if_pos h2, lt_s0]
      · exact c1.lo hA2 ((th_Lo 0).tr ((Same.ofI (X := [155]) (by decide)).lo (by decide)))
      · refine m1.tape (Same.ofI (by decide)) (fun i hi => sI_nk1 hi) (by rw [sI_s, len]) ?_ rfl
        intro i hi
        rw [len] at hi
        rw [sI_ne1 (by decide), m1.1.2 i (by omega), gt i hi]
    · refine ⟨0, h, sI h 155 0 0, ?_, ?_, tp, σ, nm, K, fd, fl, tn, hA, hC.lo hA (th_Lo 0), hM.keep (th_Eq 0)⟩
      · unfold f_X12_end; rw [if_neg h1, hc.1, if_neg h2]
      · unfold f_X13_end; rw [lt_s0, if_neg h1, (hM.keep (th_Eq 0)).1.1, if_neg h2]
theorem st_fault (hI : Inv h) : ∃ v h1 h2, f_X12_fault h = some (v, h1) ∧ f_X13_fault h1 = some (v, h2) ∧ Inv h2 := by
  obtain ⟨tp, σ, nm, K, fd, fl, tn, hA, hC, hM⟩ := hI
  have m1 := hM.keep (th_Eq 0)
  refine ⟨nI fl, h, sI h 155 0 0, ?_, ?_, tp, σ, nm, K, fd, fl, tn, hA, hC.lo hA (th_Lo 0), m1⟩
  · unfold f_X12_fault; rw [hC.2.2.2.1]
  · unfold f_X13_fault; rw [lt_s0, m1.2.2.2.2.1]
end MRs
