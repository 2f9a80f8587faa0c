/-! ===== what the cells hold: one state, as the class keeps it and as the reference does ===== -/
/-- a NAME's letters (1 to 26), as a number of the class, of the reference -/
def nmC (l : List Nat) : Nat := l.foldl (fun c x => c * 32 + x) 0
def nmM (l : List Nat) : Nat := l.foldl (fun c x => c * 256 + (x + 96)) 0
def okNm (l : List Nat) : Prop := 1 ≤ l.length ∧ l.length ≤ 6 ∧ ∀ x ∈ l, 1 ≤ x ∧ x ≤ 26
/-! σ: the reference's 713 numbers: 0 SORTS 1 MARKS 2 SAYINGS 3 N 4 RUN 5.. begins 10.. ends 15.. follow 40.. beats 48.. weighs 56.. costs 64.. idle 72.. reads 112.. becomes 432.. clerks 437 TEXT 462 BOOK -/
def ahd (σ : Nat → Nat) (k : Nat) : Nat := 255 * (σ (15 + k) + σ (20 + k) * 256 + σ (25 + k) * 65536 + σ (30 + k) * 16777216 + σ (35 + k) * 4294967296 + σ (5 + k) * 1099511627776)
def ens (σ : Nat → Nat) : Nat := 255 * (σ 10 + σ 11 * 256 + σ 12 * 65536 + σ 13 * 16777216 + σ 14 * 4294967296)
def rds (σ : Nat → Nat) (w : Nat) : Nat := σ (72 + 5 * w) + σ (73 + 5 * w) * 2 + σ (74 + 5 * w) * 4 + σ (75 + 5 * w) * 8 + σ (76 + 5 * w) * 16
def idl (σ : Nat → Nat) : Nat := σ 64 + σ 65 * 2 + σ 66 * 4 + σ 67 * 8 + σ 68 * 16 + σ 69 * 32 + σ 70 * 64 + σ 71 * 128
/-- what becomes of a MEANING, by its place among 320 -/
def mk (σ : Nat → Nat) (i : Nat) : Nat := if σ (72 + i / 8) = 1 then σ (112 + i) else i % 8
/-- what becomes of a set of four MEANINGS from i on -/
def img4 (f : Nat → Nat) (i set : Nat) : Nat := (if set.testBit 0 then 2 ^ f i else 0) ||| (if set.testBit 1 then 2 ^ f (i + 1) else 0) ||| (if set.testBit 2 then 2 ^ f (i + 2) else 0) ||| (if set.testBit 3 then 2 ^ f (i + 3) else 0)
def mos (σ : Nat → Nat) (i : Nat) : Nat := img4 (mk σ) (i / 32 * 8 + i % 32 / 16 * 4) (i % 16)
/-- the class's TONGUE at t -/
def TgRep (h : Hp) (t : Nat) (σ : Nat → Nat) (nm : Nat → List Nat) : Prop :=
  (h.1 t 0 = nI (σ 0) ∧ h.1 t 1 = nI (σ 1) ∧ h.1 t 2 = nI (σ 2) ∧ h.1 (t + 2) 0 = nI (σ 3) ∧ h.1 (t + 2) 1 = nI (σ 4)) ∧
  (∀ w, w < σ 2 → h.1 (t + 1) (8 + w) = nI (nmC (nm w))) ∧
  (∀ b, 1 ≤ b → b ≤ 5 → h.1 (t + 3) b = nI (σ (431 + b))) ∧
  ((∀ k, k < 5 → h.2.1 (t + 4) k = lN (ahd σ k)) ∧ h.2.1 t 7 = lN (ens σ)) ∧
  (∀ w, w < σ 2 → h.1 (t + 5) w = nI (σ (40 + w)) ∧ h.1 (t + 6) w = nI (σ (48 + w)) ∧ h.1 (t + 7) w = nI (σ (56 + w))) ∧
  ((∀ w, w < 8 → h.1 (t + 8) w = nI (rds σ w)) ∧ h.1 t 11 = nI (idl σ)) ∧
  (∀ i, i < 320 → h.1 (t + 9) i = nI (mk σ i)) ∧ (σ 2 ≠ 0 → ∀ i, i < 1280 → h.1 (t + 10) i = nI (mos σ i))
/-- the class's Matter at m: TONGUE, TEXT, BOOK -/
def MatRep (h : Hp) (m : Nat) (σ : Nat → Nat) (nm : Nat → List Nat) : Prop :=
  TgRep h (m + 1) σ nm ∧ (h.1 (m + 12) 1 = nI (σ 437) ∧ ∀ k, k < σ 437 → h.1 (m + 13) k = nI (σ (438 + k))) ∧
  h.1 m 3 = nI (σ 462) ∧ ∀ c, c < σ 462 → h.1 (m + 15 + 2 * c) 1 = nI (σ (463 + 25 * c)) ∧ ∀ k, k < σ (463 + 25 * c) → h.1 (m + 16 + 2 * c) k = nI (σ (464 + 25 * c + k))
/-- a TONGUE as it may be -/
def TgOk (σ : Nat → Nat) (nm : Nat → List Nat) : Prop :=
  (σ 0 ≤ 5 ∧ σ 1 ≤ 3 ∧ σ 2 ≤ 8 ∧ 2 ≤ σ 3 ∧ σ 3 ≤ 5 ∧ 1 ≤ σ 4 ∧ σ 4 < σ 3) ∧
  (∀ k, 5 ≤ k → k < 40 → σ k ≤ 1) ∧ (∀ k, σ 0 ≤ k → k < 5 → σ (5 + k) = 0 ∧ σ (10 + k) = 0 ∧ (∀ o, o < 5 → σ (15 + 5 * o + k) = 0 ∧ σ (15 + 5 * k + o) = 0) ∧ ∀ w, w < 8 → σ (72 + 5 * w + k) = 0) ∧
  (∀ w, w < σ 2 → σ (40 + w) ≤ 9 ∧ 1 ≤ σ (48 + w) ∧ σ (48 + w) ≤ 60 ∧ σ (56 + w) ≤ 99 ∧ okNm (nm w)) ∧
  (∀ k, 64 ≤ k → k < 112 → σ k ≤ 1) ∧ (∀ w, σ 2 ≤ w → w < 8 → σ (64 + w) = 0 ∧ ∀ k, k < 5 → σ (72 + 5 * w + k) = 0) ∧
  (∀ i, i < 320 → σ (112 + i) < 8) ∧ ∀ b, 1 ≤ b → b ≤ 5 → σ (431 + b) ≤ 9
/-- a row of SAYINGS, by its number and then its places, from p on -/
def rowOk (σ : Nat → Nat) (p : Nat) : Prop := σ p ≤ 24 ∧ ∀ k, k < σ p → σ (p + 1 + k) < σ 2
def SgOk (σ : Nat → Nat) (nm : Nat → List Nat) : Prop := TgOk σ nm ∧ rowOk σ 437 ∧ σ 462 ≤ 10 ∧ ∀ c, c < σ 462 → rowOk σ (463 + 25 * c)
/-- what a call of torn() told: MEANINGS, SURE to be set, not, the product, the row -/
abbrev Tn : Type := Nat × Nat × Nat × Nat × List Nat
abbrev Im : Type := Nat → Option ((Nat → Nat) × (Nat → List Nat))
def lsI (f : Nat → Int32) (l : List Nat) : Prop := ∀ i, i < l.length → f i = nI (l.getD i 0)
/-- the class's cells -/
def CR (tp : List Nat) (σ : Nat → Nat) (nm : Nat → List Nat) (K : Im) (fd : List Nat) (fl : Nat) (tn : Option Tn) (h : Hp) : Prop :=
  (h.1 2 1 = nI tp.length ∧ lsI (h.1 3) tp) ∧ MatRep h 6 σ nm ∧
  (∀ k, k < 2 → match K k with
    | none => h.1 112 k = 0
    | some q => h.1 112 k = 1 ∧ MatRep h (42 + 35 * k) q.1 q.2) ∧
  h.1 1 11 = nI fl ∧ (h.1 140 1 = nI fd.length ∧ lsI (h.1 141) fd) ∧
  (match tn with
    | none => h.1 133 0 = 0
    | some q => h.1 133 0 = 1 ∧ h.1 133 2 = nI q.1 ∧ h.1 133 3 = nI q.2.1 ∧ h.1 133 4 = nI q.2.2.1 ∧ h.2.1 133 5 = lN q.2.2.2.1 ∧ (0 < q.2.2.2.1 → h.1 134 1 = nI q.2.2.2.2.length ∧ lsI (h.1 135) q.2.2.2.2)) ∧
  h.1 123 8 = -1
/-- the reference's words -/
def resv : List Nat := [0x736f7274, 0x626567696e73, 0x656e6473, 0x6d61726b, 0x666f6c6c6f77, 0x776f7264, 0x6265617473, 0x776569676873, 0x636f737473, 0x69646c65, 0x7265616473, 0x73657473, 0x636c65617273, 0x7475726e73, 0x6564696374, 0x636c65726b]
/-- what becomes of a set of MEANINGS -/
def img (σ : Nat → Nat) (p set : Nat) : Nat := img4 (fun i => σ (112 + i)) (8 * p) (set % 16) ||| img4 (fun i => σ (112 + i)) (8 * p + 4) (set / 16)
/-- the reference's cache -/
def Cache (σ : Nat → Nat) (h : Hp) : Prop := (∀ k, k < 25 → h.1 166 k = nI (σ (15 + k))) ∧ (∀ k, k < 40 → h.1 165 k = nI (σ (72 + k))) ∧ ∀ k, k < 40 → ∀ set, set < 256 → h.1 164 (256 * k + set) = nI (img σ k set)
/-- the reference's cells -/
def MR (tp : List Nat) (σ : Nat → Nat) (nm : Nat → List Nat) (K : Im) (fd : List Nat) (fl : Nat) (tn : Option Tn) (h : Hp) : Prop :=
  (h.1 155 2 = nI tp.length ∧ ∀ i, i < tp.length → h.1 156 i = sb_b (tp.getD i 0)) ∧
  (∀ k, k < 713 → h.1 157 k = nI (σ k)) ∧ (∀ w, w < σ 2 → h.2.1 159 (8 + w) = lN (nmM (nm w))) ∧
  (∀ k, k < 2 → match K k with
    | none => h.1 185 k = 0
    | some q => h.1 185 k = 1 ∧ (∀ i, i < 713 → h.1 183 (713 * k + i) = nI (q.1 i)) ∧ ∀ w, w < q.1 2 → h.2.1 184 (16 * k + 8 + w) = lN (nmM (q.2 w))) ∧
  h.1 155 14 = nI fl ∧ (h.1 155 42 = nI fd.length ∧ lsI (h.1 176) fd) ∧
  (match tn with
    | none => h.1 155 53 = 0
    | some q => h.1 155 53 = 1 ∧ h.1 179 0 = nI q.1 ∧ h.1 179 1 = nI q.2.1 ∧ h.1 179 2 = nI q.2.2.1 ∧ h.2.1 155 52 = lN q.2.2.2.1 ∧ (0 < q.2.2.2.1 → h.1 155 51 = nI q.2.2.2.2.length ∧ lsI (h.1 180) q.2.2.2.2)) ∧
  (∀ k, k < 16 → h.2.1 160 k = lN (resv.getD k 0)) ∧ (h.1 155 31 = 1 ∨ (h.1 155 31 = 0 ∧ Cache σ h))
/-- the numbers as they may be -/
def AbOk (tp : List Nat) (σ : Nat → Nat) (nm : Nat → List Nat) (K : Im) (fd : List Nat) (fl : Nat) (tn : Option Tn) : Prop :=
  (tp.length ≤ 940 ∧ ∀ x ∈ tp, x < 256) ∧ SgOk σ nm ∧ (∀ k q, k < 2 → K k = some q → SgOk q.1 q.2) ∧ fd.length ≤ 13 ∧ fl ≤ 4 ∧ (∀ x ∈ fd, x < 8) ∧
  ∀ q, tn = some q → q.1 < 256 ∧ q.2.1 < 8 ∧ q.2.2.1 < 8 ∧ q.2.2.2.1 < 2 ^ 62 ∧ q.2.2.2.2.length ≤ 12 ∧ ∀ x ∈ q.2.2.2.2, x < 8
/-- class and reference stand alike -/
def Inv (h : Hp) : Prop := ∃ tp σ nm K fd fl tn, AbOk tp σ nm K fd fl tn ∧ CR tp σ nm K fd fl tn h ∧ MR tp σ nm K fd fl tn h
/-- the class's cells, the reference's cells are the same -/
def Lo (h h' : Hp) : Prop := ∀ a, a < 155 → h'.1 a = h.1 a ∧ h'.2.1 a = h.2.1 a ∧ h'.2.2 a = h.2.2 a
def Hi (h h' : Hp) : Prop := ∀ a, 155 ≤ a → h'.1 a = h.1 a ∧ h'.2.1 a = h.2.1 a ∧ h'.2.2 a = h.2.2 a
theorem Lo.rf {h : Hp} : Lo h h := fun _ _ => ⟨rfl, rfl, rfl⟩
theorem Hi.rf {h : Hp} : Hi h h := fun _ _ => ⟨rfl, rfl, rfl⟩
theorem Lo.tr {h h1 h2 : Hp} (a : Lo h h1) (b : Lo h1 h2) : Lo h h2 := fun q hq => ⟨(b q hq).1.trans (a q hq).1, (b q hq).2.1.trans (a q hq).2.1, (b q hq).2.2.trans (a q hq).2.2⟩
theorem Hi.tr {h h1 h2 : Hp} (a : Hi h h1) (b : Hi h1 h2) : Hi h h2 := fun q hq => ⟨(b q hq).1.trans (a q hq).1, (b q hq).2.1.trans (a q hq).2.1, (b q hq).2.2.trans (a q hq).2.2⟩
theorem Same.lo {X : List Nat} {h h' : Hp} (a : Same X h h') (hX : X.all (fun q => decide (155 ≤ q)) = true) : Lo h h' := fun q hq => a q (fun z => by
  have := of_decide_eq_true (List.all_eq_true.mp hX q z)
  omega)
theorem Same.hi {X : List Nat} {h h' : Hp} (a : Same X h h') (hX : X.all (fun q => decide (q < 155)) = true) : Hi h h' := fun q hq => a q (fun z => by
  have := of_decide_eq_true (List.all_eq_true.mp hX q z)
  omega)
theorem TgRep.kept {h h' : Hp} {t : Nat} {σ : Nat → Nat} {nm : Nat → List Nat} (H : TgRep h t σ nm) (e : ∀ a, t ≤ a → a ≤ t + 10 → h'.1 a = h.1 a ∧ h'.2.1 a = h.2.1 a) : TgRep h' t σ nm := by
  obtain ⟨a, b, c, d, f, g, k, m⟩ := H
  have e0 := e t (by omega) (by omega)
  have e1 := e (t + 1) (by omega) (by omega)
  have e2 := e (t + 2) (by omega) (by omega)
  have e3 := e (t + 3) (by omega) (by omega)
  have e4 := e (t + 4) (by omega) (by omega)
  have e5 := e (t + 5) (by omega) (by omega)
  have e6 := e (t + 6) (by omega) (by omega)
  have e7 := e (t + 7) (by omega) (by omega)
  have e8 := e (t + 8) (by omega) (by omega)
  have e9 := e (t + 9) (by omega) (by omega)
  have e10 := e (t + 10) (by omega) (by omega)
  unfold TgRep
  rw [e0.1, e0.2, e1.1, e2.1, e3.1, e4.2, e5.1, e6.1, e7.1, e8.1, e9.1, e10.1]
  exact ⟨a, b, c, d, f, g, k, m⟩
theorem MatRep.kept {h h' : Hp} {t : Nat} {σ : Nat → Nat} {nm : Nat → List Nat} (hc : σ 462 ≤ 10) (H : MatRep h t σ nm) (e : ∀ a, t ≤ a → a ≤ t + 34 → h'.1 a = h.1 a ∧ h'.2.1 a = h.2.1 a) : MatRep h' t σ nm := by
  obtain ⟨a, b, c, d⟩ := H
  refine ⟨a.kept (fun q h1 h2 => e q (by omega) (by omega)), ?_, ?_, ?_⟩
  · rw [(e (t + 12) (by omega) (by omega)).1, (e (t + 13) (by omega) (by omega)).1]
    exact b
  · rw [(e t (by omega) (by omega)).1]
    exact c
  · intro k hk
    rw [(e (t + 15 + 2 * k) (by omega) (by omega)).1, (e (t + 16 + 2 * k) (by omega) (by omega)).1]
    exact d k hk
/-- the class's cells that CR speaks of: all but working room -/
def scrL : List Nat := [4, 5, 113, 114, 115, 116, 117, 118, 119, 120, 121, 122, 123, 124, 125, 126, 127, 128, 129, 130, 131, 132, 136, 137, 138, 139, 142, 143, 144, 145, 146, 147, 148, 149, 150, 151, 152, 153, 154]
theorem CR.scr {tp : List Nat} {σ : Nat → Nat} {nm : Nat → List Nat} {K : Im} {fd : List Nat} {fl : Nat} {tn : Option Tn} {h h' : Hp} (hA : AbOk tp σ nm K fd fl tn) (H : CR tp σ nm K fd fl tn h) (hs : ∀ a, a < 155 → a ∉ scrL → h'.1 a = h.1 a ∧ h'.2.1 a = h.2.1 a) (hb : h'.1 123 8 = -1) : CR tp σ nm K fd fl tn h' := by
  obtain ⟨a, b, c, d, f, g, k⟩ := H
  have e : ∀ q, q < 155 → q ∉ scrL → h'.1 q = h.1 q := fun q h1 h2 => (hs q h1 h2).1
  refine ⟨?_, ?_, ?_, ?_, ?_, ?_, hb⟩
  · rw [e 2 (by decide) (by decide), e 3 (by decide) (by decide)]
    exact a
  · refine b.kept hA.2.1.2.2.1 (fun q h1 h2 => hs q (by omega) ?_)
    intro z
    have key : ∀ x ∈ scrL, x < 6 ∨ 40 < x := by decide
    have := key q z
    omega
  · intro i hi
    have ci := c i hi
    have hK := hA.2.2.1 i
    cases hk : K i with
    | none =>
      rw [hk] at ci
      show h'.1 112 i = 0
      rw [e 112 (by decide) (by decide)]
      exact ci
    | some q =>
      rw [hk] at ci
      show h'.1 112 i = 1 ∧ MatRep h' (42 + 35 * i) q.1 q.2
      rw [e 112 (by decide) (by decide)]
      refine ⟨ci.1, ci.2.kept (hK q hi hk).2.2.1 (fun z h1 h2 => hs z (by omega) ?_)⟩
      intro zz
      have key : ∀ x ∈ scrL, x < 42 ∨ 111 < x := by decide
      have := key z zz
      omega
  · rw [e 1 (by decide) (by decide)]
    exact d
  · rw [e 140 (by decide) (by decide), e 141 (by decide) (by decide)]
    exact f
  · rw [e 133 (by decide) (by decide), e 134 (by decide) (by decide), e 135 (by decide) (by decide), (hs 133 (by decide) (by decide)).2]
    exact g
theorem CR.lo {tp : List Nat} {σ : Nat → Nat} {nm : Nat → List Nat} {K : Im} {fd : List Nat} {fl : Nat} {tn : Option Tn} {h h' : Hp} (hA : AbOk tp σ nm K fd fl tn) (H : CR tp σ nm K fd fl tn h) (hs : Lo h h') : CR tp σ nm K fd fl tn h' :=
  H.scr hA (fun a h1 _ => ⟨(hs a h1).1, (hs a h1).2.1⟩) (by rw [(hs 123 (by decide)).1]; exact H.2.2.2.2.2.2)
theorem MR.hi {tp : List Nat} {σ : Nat → Nat} {nm : Nat → List Nat} {K : Im} {fd : List Nat} {fl : Nat} {tn : Option Tn} {h h' : Hp} (H : MR tp σ nm K fd fl tn h) (hs : Hi h h') : MR tp σ nm K fd fl tn h' := by
  have e : ∀ q, 155 ≤ q → h'.1 q = h.1 q := fun q h1 => (hs q h1).1
  have l : ∀ q, 155 ≤ q → h'.2.1 q = h.2.1 q := fun q h1 => (hs q h1).2.1
  unfold MR Cache
  rw [e 155 (by decide), e 156 (by decide), e 157 (by decide), e 176 (by decide), e 179 (by decide), e 180 (by decide), e 183 (by decide), e 185 (by decide), e 164 (by decide), e 165 (by decide), e 166 (by decide), l 155 (by decide), l 159 (by decide), l 160 (by decide), l 184 (by decide)]
  exact H
