section YINI
/-! the start: what the constructors make, by running them -/
def hz0 : Hp := (fun _ _ => 0, fun _ _ => 0, fun _ _ => 0)
/-- a cell's references are where they belong -/
def chkR (h : Hp) (r : Nat) : Bool := match lay r with
  | some (.inl ci) => ((kn ci).mapIdx (fun k q => if q.1 = 2 then decide (h.2.2 r k = r + q.2) else true)).all (fun b => b)
  | some (.inr (4, n)) => (List.range n).all (fun j => decide (h.2.2 r j = r + 1 + 2 * j))
  | some (.inr (5, n)) => (List.range n).all (fun j => decide (h.2.2 r j = r + 1 + 35 * j))
  | _ => true
def ck1 : List (Nat × Nat × Nat) := [(2, 1, 0), (7, 0, 0), (7, 1, 0), (7, 2, 0), (9, 0, 3), (9, 1, 1), (10, 1, 1), (10, 2, 1), (10, 3, 1), (10, 4, 1), (10, 5, 1), (15, 0, 0), (15, 1, 0), (15, 2, 0), (15, 3, 0), (15, 4, 0), (15, 5, 0), (15, 6, 0), (15, 7, 0), (7, 11, 0), (18, 1, 0), (6, 3, 0), (112, 0, 0), (112, 1, 0), (1, 11, 0), (140, 1, 0), (133, 0, 0), (155, 2, 0), (185, 0, 0), (185, 1, 0), (155, 14, 0), (155, 42, 0), (155, 53, 0), (155, 31, 1)]
/-- the run of both constructors, with something asked of its end -/
def iniK (c : Hp → Bool) : Bool := match fA_X12_init 1 (1, 1, 0, nw hz0 1) with
  | some g => decide (g.1 = 154) && (match fA_X13_init 155 (155, 155, 0, nw g.2.2.2 155) with
    | some q => decide (q.1 = 185) && c q.2.2.2
    | none => false)
  | none => false
theorem ik_a : iniK (fun h => (List.range 100).all (fun i => chkR h (i + 1))) = true := by decide +kernel
theorem ik_b : iniK (fun h => (List.range 85).all (fun i => chkR h (i + 101))) = true := by decide +kernel
theorem ik_c : iniK (fun h => ck1.all (fun t => decide (h.1 t.1 t.2.1 = nI t.2.2)) && decide (h.1 123 8 = -1)) = true := by decide +kernel
theorem ik_d : iniK (fun h => (List.range 5).all (fun k => decide (h.2.1 11 k = lN 0)) && (decide (h.2.1 7 7 = lN 0) && (List.range 16).all (fun k => decide (h.2.1 160 k = lN (resv.getD k 0))))) = true := by decide +kernel
end YINI
