/-! ===== from the world of the making to the law's ===== -/
section ZB
def chkW (h : Hp) (r : Nat) : Bool := match lay r with
  | some (.inl ci) => ((kn ci).mapIdx (fun k q => if q.1 = 2 then decide (r + q.2 ≤ 185) else if 3 ≤ q.1 then decide (h.2.2 r k ≤ 185) else true)).all (fun b => b)
  | some (.inr (4, n)) => (List.range n).all (fun j => decide (r + 1 + 2 * j ≤ 185))
  | some (.inr (5, n)) => (List.range n).all (fun j => decide (r + 1 + 35 * j ≤ 185))
  | _ => true
theorem ik_w : iniK (fun h => (List.range 185).all (fun i => chkW h (i + 1))) = true := by decide +kernel
theorem all_ix {α : Type} {l : List α} {f : Nat → α → Bool} (h : (l.mapIdx f).all (fun b => b) = true) {k : Nat} {q : α} (hk : l[k]? = some q) : f k q = true :=
  List.all_eq_true.mp h (f k q) (List.mem_of_getElem? (i := k) (by rw [List.getElem?_mapIdx, hk]; rfl))
theorem arrV_ext {c : ClassId} {n : Nat} {f g : Nat → Value} (h : ∀ j, j < n → f j = g j) : arrV c n f = arrV c n g := by
  unfold arrV
  congr 1
  first
    | (apply Array.ext_getElem?; intro i; simp; intro hi; exact h i hi)
    | (congr 1; exact List.map_congr_left (fun j hj => h j (List.mem_range.mp hj)))
    | (apply Array.ext_getElem?; intro i; by_cases hi : i < n <;> simp [hi, h])
theorem rr_eq {a0 a1 : Nat → Nat} (ha : ∀ r, 1 ≤ r → r ≤ 185 → a0 r = a1 r) {x : Nat} (hx : x ≤ 185) : rr a0 x = rr a1 x := by
  unfold rr
  by_cases h0 : x = 0
  · rw [if_pos h0, if_pos h0]
  · rw [if_neg h0, if_neg h0, ha x (by omega) hx]
theorem cel_same {D : va_G} {T : Nat → ClassId} {a0 a1 : Nat → Nat} {h : Hp} {r x : Nat} {H : Heap} (hR : chkR h r = true) (hW : chkW h r = true) (ha : ∀ r, 1 ≤ r → r ≤ 185 → a0 r = a1 r) (hv : va_at D vwCl (x, celA (D, T, a0) h r) H) : va_at D vwCl (x, celE (D, T, a1) h r) H := by
  unfold chkR at hR
  unfold chkW at hW
  rcases hl : lay r with _ | (ci | ⟨ty, n⟩)
  · unfold celE
    unfold celA at hv
    rw [hl] at hv ⊢
    exact hv
  · rw [celA_o hl] at hv
    rw [cel_o hl]
    rw [hl] at hR hW
    have e : (knA ci).mapIdx (fdV (D, T, a0) h r) = (kn ci).mapIdx (fdV (D, T, a1) h r) := by
      apply List.ext_getElem?
      intro k
      rw [List.getElem?_mapIdx, List.getElem?_mapIdx]
      unfold knA
      rw [List.getElem?_map]
      cases hk : (kn ci)[k]? with
      | none => rfl
      | some q =>
        have r2 := all_ix hR hk
        have w2 := all_ix hW hk
        show some (fdV (D, T, a0) h r k (if q.1 = 2 then (3, 0) else q)) = some (fdV (D, T, a1) h r k q)
        congr 1
        by_cases q2 : q.1 = 2
        · rw [if_pos q2] at r2 w2 ⊢
          have r2 := of_decide_eq_true r2
          have w2 := of_decide_eq_true w2
          have hr1 : 1 ≤ r := (lay_in hl).1
          show va_rf (rr a0 (h.2.2 r k)) = _
          unfold fdV
          rw [q2, r2]
          show va_rf (rr a0 (r + q.2)) = .ref (a1 (r + q.2))
          unfold rr
          rw [if_neg (by omega), ha _ (by omega) w2]
          rfl
        · rw [if_neg q2] at w2 ⊢
          obtain ⟨q1, q0⟩ := q
          match q1, q2, w2 with
          | 0, _, _ => rfl
          | 1, _, _ => rfl
          | 2, q2, _ => exact absurd rfl q2
          | n + 3, _, w2 =>
            have w2 := of_decide_eq_true ((if_pos (show 3 ≤ n + 3 by omega)).symm.trans w2)
            show va_rf (rr a0 (h.2.2 r k)) = va_rf (rr a1 (h.2.2 r k))
            rw [rr_eq ha w2]
    rw [e] at hv
    exact hv
  · rw [celA_a hl] at hv
    rw [cel_a hl]
    rw [hl] at hR hW
    by_cases t4 : ty = 4
    · subst t4
      have hv : H[x]? = some (arrV (T 4) n (fun j => va_rf (rr a0 (h.2.2 r j)))) := hv
      show H[x]? = some (arrV (T 4) n (fun j => va_rf (some (a1 (r + 1 + 2 * j)))))
      rw [hv]
      congr 1
      refine arrV_ext (fun j hj => ?_)
      have r2 := of_decide_eq_true (all_r hR hj)
      have w2 := of_decide_eq_true (all_r hW hj)
      rw [r2]
      unfold rr
      rw [if_neg (by omega), ha _ (by omega) w2]
    · by_cases t5 : ty = 5
      · subst t5
        have hv : H[x]? = some (arrV (T 5) n (fun j => va_rf (rr a0 (h.2.2 r j)))) := hv
        show H[x]? = some (arrV (T 5) n (fun j => va_rf (some (a1 (r + 1 + 35 * j)))))
        rw [hv]
        congr 1
        refine arrV_ext (fun j hj => ?_)
        have r2 := of_decide_eq_true (all_r hR hj)
        have w2 := of_decide_eq_true (all_r hW hj)
        rw [r2]
        unfold rr
        rw [if_neg (by omega), ha _ (by omega) w2]
      · have e : arV (D, T, a1) h r ty n = arA (D, T, a0) h r ty n := by
          unfold arV arA
          match ty, t4, t5 with
          | 0, _, _ => rfl
          | 1, _, _ => rfl
          | 2, _, _ => rfl
          | 3, _, _ => rfl
          | 4, t4, _ => exact absurd rfl t4
          | 5, _, t5 => exact absurd rfl t5
          | k + 6, _, _ => rfl
        rw [e]
        exact hv
theorem wd_same {D : va_G} {T : Nat → ClassId} {a0 a1 : Nat → Nat} {h : Hp} {H : Heap} (hR : ∀ r, 1 ≤ r → r ≤ 185 → chkR h r = true) (hW : ∀ r, 1 ≤ r → r ≤ 185 → chkW h r = true) (ha : ∀ r, 1 ≤ r → r ≤ 185 → a0 r = a1 r) (hP : va_P D vwCl (wdA (D, T, a0) 185 h) H) : va_P D vwCl (wd (D, T, a1) h) H := by
  intro k q hk
  have lk : k < 185 := by have := (List.getElem?_eq_some_iff.mp hk).1; rwa [wd_len] at this
  rw [wd_get lk] at hk
  cases hk
  have hv := hP k _ (wdA_get lk)
  have e : a0 (k + 1) = a1 (k + 1) := ha (k + 1) (by omega) (by omega)
  have hv : va_at D vwCl (a0 (k + 1), celA (D, T, a0) h (k + 1)) H := hv
  rw [e] at hv
  exact cel_same (hR (k + 1) (by omega) (by omega)) (hW (k + 1) (by omega) (by omega)) ha hv
end ZB
