section BK
variable {tp : List Nat} {σ τ : Nat → Nat} {nm : Nat → List Nat} {K : Im} {fd : List Nat} {fl : Nat} {tn : Option Tn} {h h' : Hp}
/-! the TONGUE's numbers are those below 437 -/
theorem ahd_c (e : ∀ k, k < 437 → τ k = σ k) {k : Nat} (hk : k < 5) : ahd τ k = ahd σ k := by
  unfold ahd
  rw [e (15 + k) (by omega), e (20 + k) (by omega), e (25 + k) (by omega), e (30 + k) (by omega), e (35 + k) (by omega), e (5 + k) (by omega)]
theorem ens_c (e : ∀ k, k < 437 → τ k = σ k) : ens τ = ens σ := by
  unfold ens
  rw [e 10 (by omega), e 11 (by omega), e 12 (by omega), e 13 (by omega), e 14 (by omega)]
theorem rds_c (e : ∀ k, k < 437 → τ k = σ k) {w : Nat} (hw : w < 8) : rds τ w = rds σ w := by
  unfold rds
  rw [e (72 + 5 * w) (by omega), e (73 + 5 * w) (by omega), e (74 + 5 * w) (by omega), e (75 + 5 * w) (by omega), e (76 + 5 * w) (by omega)]
theorem idl_c (e : ∀ k, k < 437 → τ k = σ k) : idl τ = idl σ := by
  unfold idl
  rw [e 64 (by omega), e 65 (by omega), e 66 (by omega), e 67 (by omega), e 68 (by omega), e 69 (by omega), e 70 (by omega), e 71 (by omega)]
theorem mk_c (e : ∀ k, k < 437 → τ k = σ k) {i : Nat} (hi : i < 320) : mk τ i = mk σ i := by
  unfold mk
  rw [e (72 + i / 8) (by omega), e (112 + i) (by omega)]
theorem mos_c (e : ∀ k, k < 437 → τ k = σ k) {i : Nat} (hi : i < 1280) : mos τ i = mos σ i := by
  unfold mos img4
  have h1 : i / 32 * 8 + i % 32 / 16 * 4 + 3 < 320 := by omega
  rw [mk_c e (by omega), mk_c e (by omega), mk_c e (by omega), mk_c e (by omega)]
theorem TgRep.cong (e : ∀ k, k < 437 → τ k = σ k) (h8 : σ 2 ≤ 8) {t : Nat} (H : TgRep h t σ nm) : TgRep h t τ nm := by
  obtain ⟨⟨a1, a2, a3, a4, a5⟩, b, c, ⟨d, d2⟩, f, ⟨g, g2⟩, k, m⟩ := H
  have e2 := e 2 (by omega)
  refine ⟨⟨by rw [e 0 (by omega)]; exact a1, by rw [e 1 (by omega)]; exact a2, by rw [e2]; exact a3, by rw [e 3 (by omega)]; exact a4, by rw [e 4 (by omega)]; exact a5⟩, ?_, ?_, ⟨?_, ?_⟩, ?_, ⟨?_, ?_⟩, ?_, ?_⟩
  · intro w hw; exact b w (by omega)
  · intro i h1 h2; rw [e (431 + i) (by omega)]; exact c i h1 h2
  · intro i hi; rw [ahd_c e hi]; exact d i hi
  · rw [ens_c e]; exact d2
  · intro w hw
    rw [e2] at hw
    rw [e (40 + w) (by omega), e (48 + w) (by omega), e (56 + w) (by omega)]; exact f w hw
  · intro w hw; rw [rds_c e hw]; exact g w hw
  · rw [idl_c e]; exact g2
  · intro i hi; rw [mk_c e hi]; exact k i hi
  · intro hz i hi; rw [mos_c e hi]; exact m (by omega) i hi
theorem TgOk.cong (e : ∀ k, k < 437 → τ k = σ k) (H : TgOk σ nm) : TgOk τ nm := by
  obtain ⟨⟨a0, a1, a2, a3, a4, a5, a6⟩, b, c, d, f, g, i, j⟩ := H
  have e0 := e 0 (by omega)
  have e2 := e 2 (by omega)
  refine ⟨⟨by omega, by rw [e 1 (by omega)]; exact a1, by omega, by rw [e 3 (by omega)]; exact a3, by rw [e 3 (by omega)]; exact a4, by rw [e 4 (by omega)]; exact a5, by rw [e 3 (by omega), e 4 (by omega)]; exact a6⟩, ?_, ?_, ?_, ?_, ?_, ?_, ?_⟩
  · intro k h1 h2; rw [e k (by omega)]; exact b k h1 h2
  · intro k h1 h2
    obtain ⟨c1, c2, c3, c4⟩ := c k (by omega) h2
    exact ⟨by rw [e _ (by omega)]; exact c1, by rw [e _ (by omega)]; exact c2, fun o ho => ⟨by rw [e _ (by omega)]; exact (c3 o ho).1, by rw [e _ (by omega)]; exact (c3 o ho).2⟩, fun w hw => by rw [e _ (by omega)]; exact c4 w hw⟩
  · intro w hw
    have := d w (by omega)
    rw [e (40 + w) (by omega), e (48 + w) (by omega), e (56 + w) (by omega)]
    exact this
  · intro k h1 h2; rw [e k (by omega)]; exact f k h1 h2
  · intro w h1 h2
    obtain ⟨g1, g2⟩ := g w (by omega) h2
    exact ⟨by rw [e _ (by omega)]; exact g1, fun k hk => by rw [e _ (by omega)]; exact g2 k hk⟩
  · intro k hk; rw [e _ (by omega)]; exact i k hk
  · intro k h1 h2; rw [e _ (by omega)]; exact j k h1 h2
theorem rowOk.cong {p q : Nat} (e2 : τ 2 = σ 2) (e : ∀ k, k < 25 → τ (p + k) = σ (q + k)) (H : rowOk σ q) : rowOk τ p := by
  obtain ⟨a, b⟩ := H
  have e0 : τ p = σ q := e 0 (by omega)
  refine ⟨by omega, fun k hk => ?_⟩
  have := e (1 + k) (by omega)
  rw [show p + 1 + k = p + (1 + k) by omega, this, e2, show q + (1 + k) = q + 1 + k by omega]
  exact b k (by omega)
/-- another TEXT, or another BOOK -/
theorem AbOk.sig (hA : AbOk tp σ nm K fd fl tn) (e : ∀ k, k < 437 → τ k = σ k) (h1 : rowOk τ 437) (h2 : τ 462 ≤ 10) (h3 : ∀ c, c < τ 462 → rowOk τ (463 + 25 * c)) : AbOk tp τ nm K fd fl tn :=
  ⟨hA.1, ⟨hA.2.1.1.cong e, h1, h2, h3⟩, hA.2.2⟩
theorem CR.sig (hA : AbOk tp σ nm K fd fl tn) (H : CR tp σ nm K fd fl tn h) (e : ∀ k, k < 437 → τ k = σ k) (hs : ∀ a, a < 155 → a ∉ scrL → (a < 18 ∨ 40 < a) → h'.1 a = (if a = 6 then h'.1 6 else h.1 a) ∧ h'.2.1 a = h.2.1 a) (hb : h'.1 123 8 = -1)
    (h1 : h'.1 18 1 = nI (τ 437)) (h2 : ∀ k, k < τ 437 → h'.1 19 k = nI (τ (438 + k))) (h3 : h'.1 6 3 = nI (τ 462)) (h4 : ∀ c, c < τ 462 → h'.1 (21 + 2 * c) 1 = nI (τ (463 + 25 * c)) ∧ ∀ k, k < τ (463 + 25 * c) → h'.1 (22 + 2 * c) k = nI (τ (464 + 25 * c + k))) : CR tp τ nm K fd fl tn h' := by
  obtain ⟨a, b, c, d, f, g, k⟩ := H
  have ee : ∀ q, q < 155 → q ∉ scrL → (q < 18 ∨ 40 < q) → q ≠ 6 → h'.1 q = h.1 q := fun q h1 h2 h3 h4 => by rw [(hs q h1 h2 h3).1, if_neg h4]
  refine ⟨?_, ⟨?_, ⟨h1, h2⟩, h3, ?_⟩, ?_, ?_, ?_, ?_, hb⟩
  · rw [ee 2 (by decide) (by decide) (by decide) (by decide), ee 3 (by decide) (by decide) (by decide) (by decide)]
    exact a
  · refine (b.1.kept (fun q z1 z2 => ⟨ee q (by omega) ?_ (by omega) (by omega), (hs q (by omega) ?_ (by omega)).2⟩)).cong e hA.2.1.1.1.2.2.1
    all_goals
      intro z
      have key : ∀ x ∈ scrL, x < 6 ∨ 40 < x := by decide
      have := key q z
      omega
  · intro c hc
    have := h4 c hc
    rw [show 6 + 15 + 2 * c = 21 + 2 * c by omega, show 6 + 16 + 2 * c = 22 + 2 * c by omega]
    exact this
  · intro i hi
    have ci := c i hi
    have hK := hA.2.2.1 i
    cases hk : K i with
    | none =>
      rw [hk] at ci
      show h'.1 112 i = 0
      rw [ee 112 (by decide) (by decide) (by decide) (by decide)]
      exact ci
    | some q =>
      rw [hk] at ci
      show h'.1 112 i = 1 ∧ MatRep h' (42 + 35 * i) q.1 q.2
      rw [ee 112 (by decide) (by decide) (by decide) (by decide)]
      refine ⟨ci.1, ci.2.kept (hK q hi hk).2.2.1 (fun z h1 h2 => ⟨ee z (by omega) ?_ (by omega) (by omega), (hs z (by omega) ?_ (by omega)).2⟩)⟩
      all_goals
        intro zz
        have key : ∀ x ∈ scrL, x < 42 ∨ 111 < x := by decide
        have := key z zz
        omega
  · rw [ee 1 (by decide) (by decide) (by decide) (by decide)]; exact d
  · rw [ee 140 (by decide) (by decide) (by decide) (by decide), ee 141 (by decide) (by decide) (by decide) (by decide)]; exact f
  · rw [ee 133 (by decide) (by decide) (by decide) (by decide), ee 134 (by decide) (by decide) (by decide) (by decide), ee 135 (by decide) (by decide) (by decide) (by decide), (hs 133 (by decide) (by decide) (by decide)).2]; exact g
/-- the reference with other numbers above 436 -/
theorem MR.sig (H : MR tp σ nm K fd fl tn h) (e : ∀ k, k < 437 → τ k = σ k) (hs : Same [157] h h') (h1 : ∀ k, k < 713 → h'.1 157 k = nI (τ k)) : MR tp τ nm K fd fl tn h' := by
  obtain ⟨a, b, c, d, f, g, k, m, n⟩ := H
  have ee : ∀ q, q ∉ [157] → h'.1 q = h.1 q := fun q h2 => (hs q h2).1
  have l : ∀ q, q ∉ [157] → h'.2.1 q = h.2.1 q := fun q h2 => (hs q h2).2.1
  have hc : Cache σ h → Cache τ h' := by
    intro ⟨c1, c2, c3⟩
    refine ⟨fun k hk => ?_, fun k hk => ?_, fun k hk set hset => ?_⟩
    · rw [ee 166 (by decide), e _ (by omega)]; exact c1 k hk
    · rw [ee 165 (by decide), e _ (by omega)]; exact c2 k hk
    · rw [ee 164 (by decide), c3 k hk set hset]
      congr 1
      unfold img img4
      dsimp only
      rw [e (112 + 8 * k) (by omega), e (112 + (8 * k + 1)) (by omega), e (112 + (8 * k + 2)) (by omega), e (112 + (8 * k + 3)) (by omega), e (112 + (8 * k + 4)) (by omega), e (112 + (8 * k + 4 + 1)) (by omega), e (112 + (8 * k + 4 + 2)) (by omega), e (112 + (8 * k + 4 + 3)) (by omega)]
  refine ⟨?_, h1, ?_, ?_, ?_, ?_, ?_, ?_, ?_⟩
  · rw [ee 155 (by decide), ee 156 (by decide)]; exact a
  · intro w hw; rw [l 159 (by decide)]; exact c w (by rw [← e 2 (by omega)]; exact hw)
  · rw [ee 183 (by decide), ee 185 (by decide), l 184 (by decide)]; exact d
  · rw [ee 155 (by decide)]; exact f
  · rw [ee 155 (by decide), ee 176 (by decide)]; exact g
  · rw [ee 155 (by decide), ee 179 (by decide), ee 180 (by decide), l 155 (by decide)]; exact k
  · rw [l 160 (by decide)]; exact m
  · rw [ee 155 (by decide)]
    exact n.imp id (fun z => ⟨z.1, hc z.2⟩)
end BK
