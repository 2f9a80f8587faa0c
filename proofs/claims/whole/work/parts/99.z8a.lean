/-! ===== the law's entry: what the tables and the statement's start give ===== -/
abbrev gE : String := "StruckWords$Keyword"
abbrev gD : String := "LStruckWords$Keyword;"
abbrev gM : String := "$SwitchMap$StruckWords$Keyword"
theorem g_ls : ∀ i, i < 16 → Cond.laysStatic gE (kwN.getD i "") gD ∈ lw_tbl := by decide +kernel
theorem g_ex : ∀ i, i < 16 → Cond.exactly (.static gE (kwN.getD i "") gD) gE ∈ flatC (given_1.and narrow_1) := by decide +kernel
theorem g_f : ∀ q ∈ kwF, ∀ i, i < 16 → Cond.eq (.field (.static gE (kwN.getD i "") gD) q.1 q.2.1 q.2.2.1) (.int (q.2.2.2.getD i 0)) ∈ flatC (given_1.and narrow_1) := by decide +kernel
theorem g_ne1 : ∀ j, j < 1 → (Cond.not (.eq (.static gE (kwN.getD 1 "") gD) (.static gE (kwN.getD j "") gD)) ∈ flatC (given_1.and narrow_1) ∨ Cond.not (.eq (.static gE (kwN.getD j "") gD) (.static gE (kwN.getD 1 "") gD)) ∈ flatC (given_1.and narrow_1)) := by decide +kernel
theorem g_ne2 : ∀ j, j < 2 → (Cond.not (.eq (.static gE (kwN.getD 2 "") gD) (.static gE (kwN.getD j "") gD)) ∈ flatC (given_1.and narrow_1) ∨ Cond.not (.eq (.static gE (kwN.getD j "") gD) (.static gE (kwN.getD 2 "") gD)) ∈ flatC (given_1.and narrow_1)) := by decide +kernel
theorem g_ne3 : ∀ j, j < 3 → (Cond.not (.eq (.static gE (kwN.getD 3 "") gD) (.static gE (kwN.getD j "") gD)) ∈ flatC (given_1.and narrow_1) ∨ Cond.not (.eq (.static gE (kwN.getD j "") gD) (.static gE (kwN.getD 3 "") gD)) ∈ flatC (given_1.and narrow_1)) := by decide +kernel
theorem g_ne4 : ∀ j, j < 4 → (Cond.not (.eq (.static gE (kwN.getD 4 "") gD) (.static gE (kwN.getD j "") gD)) ∈ flatC (given_1.and narrow_1) ∨ Cond.not (.eq (.static gE (kwN.getD j "") gD) (.static gE (kwN.getD 4 "") gD)) ∈ flatC (given_1.and narrow_1)) := by decide +kernel
theorem g_ne5 : ∀ j, j < 5 → (Cond.not (.eq (.static gE (kwN.getD 5 "") gD) (.static gE (kwN.getD j "") gD)) ∈ flatC (given_1.and narrow_1) ∨ Cond.not (.eq (.static gE (kwN.getD j "") gD) (.static gE (kwN.getD 5 "") gD)) ∈ flatC (given_1.and narrow_1)) := by decide +kernel
theorem g_ne6 : ∀ j, j < 6 → (Cond.not (.eq (.static gE (kwN.getD 6 "") gD) (.static gE (kwN.getD j "") gD)) ∈ flatC (given_1.and narrow_1) ∨ Cond.not (.eq (.static gE (kwN.getD j "") gD) (.static gE (kwN.getD 6 "") gD)) ∈ flatC (given_1.and narrow_1)) := by decide +kernel
theorem g_ne7 : ∀ j, j < 7 → (Cond.not (.eq (.static gE (kwN.getD 7 "") gD) (.static gE (kwN.getD j "") gD)) ∈ flatC (given_1.and narrow_1) ∨ Cond.not (.eq (.static gE (kwN.getD j "") gD) (.static gE (kwN.getD 7 "") gD)) ∈ flatC (given_1.and narrow_1)) := by decide +kernel
theorem g_ne8 : ∀ j, j < 8 → (Cond.not (.eq (.static gE (kwN.getD 8 "") gD) (.static gE (kwN.getD j "") gD)) ∈ flatC (given_1.and narrow_1) ∨ Cond.not (.eq (.static gE (kwN.getD j "") gD) (.static gE (kwN.getD 8 "") gD)) ∈ flatC (given_1.and narrow_1)) := by decide +kernel
theorem g_ne9 : ∀ j, j < 9 → (Cond.not (.eq (.static gE (kwN.getD 9 "") gD) (.static gE (kwN.getD j "") gD)) ∈ flatC (given_1.and narrow_1) ∨ Cond.not (.eq (.static gE (kwN.getD j "") gD) (.static gE (kwN.getD 9 "") gD)) ∈ flatC (given_1.and narrow_1)) := by decide +kernel
theorem g_ne10 : ∀ j, j < 10 → (Cond.not (.eq (.static gE (kwN.getD 10 "") gD) (.static gE (kwN.getD j "") gD)) ∈ flatC (given_1.and narrow_1) ∨ Cond.not (.eq (.static gE (kwN.getD j "") gD) (.static gE (kwN.getD 10 "") gD)) ∈ flatC (given_1.and narrow_1)) := by decide +kernel
theorem g_ne11 : ∀ j, j < 11 → (Cond.not (.eq (.static gE (kwN.getD 11 "") gD) (.static gE (kwN.getD j "") gD)) ∈ flatC (given_1.and narrow_1) ∨ Cond.not (.eq (.static gE (kwN.getD j "") gD) (.static gE (kwN.getD 11 "") gD)) ∈ flatC (given_1.and narrow_1)) := by decide +kernel
theorem g_ne12 : ∀ j, j < 12 → (Cond.not (.eq (.static gE (kwN.getD 12 "") gD) (.static gE (kwN.getD j "") gD)) ∈ flatC (given_1.and narrow_1) ∨ Cond.not (.eq (.static gE (kwN.getD j "") gD) (.static gE (kwN.getD 12 "") gD)) ∈ flatC (given_1.and narrow_1)) := by decide +kernel
theorem g_ne13 : ∀ j, j < 13 → (Cond.not (.eq (.static gE (kwN.getD 13 "") gD) (.static gE (kwN.getD j "") gD)) ∈ flatC (given_1.and narrow_1) ∨ Cond.not (.eq (.static gE (kwN.getD j "") gD) (.static gE (kwN.getD 13 "") gD)) ∈ flatC (given_1.and narrow_1)) := by decide +kernel
theorem g_ne14 : ∀ j, j < 14 → (Cond.not (.eq (.static gE (kwN.getD 14 "") gD) (.static gE (kwN.getD j "") gD)) ∈ flatC (given_1.and narrow_1) ∨ Cond.not (.eq (.static gE (kwN.getD j "") gD) (.static gE (kwN.getD 14 "") gD)) ∈ flatC (given_1.and narrow_1)) := by decide +kernel
theorem g_ne15 : ∀ j, j < 15 → (Cond.not (.eq (.static gE (kwN.getD 15 "") gD) (.static gE (kwN.getD j "") gD)) ∈ flatC (given_1.and narrow_1) ∨ Cond.not (.eq (.static gE (kwN.getD j "") gD) (.static gE (kwN.getD 15 "") gD)) ∈ flatC (given_1.and narrow_1)) := by decide +kernel
theorem g_ne : ∀ i, i < 16 → ∀ j, j < i → (Cond.not (.eq (.static gE (kwN.getD i "") gD) (.static gE (kwN.getD j "") gD)) ∈ flatC (given_1.and narrow_1) ∨ Cond.not (.eq (.static gE (kwN.getD j "") gD) (.static gE (kwN.getD i "") gD)) ∈ flatC (given_1.and narrow_1)) := by
  intro i hi j hj
  rcases (show i = 1 ∨ i = 2 ∨ i = 3 ∨ i = 4 ∨ i = 5 ∨ i = 6 ∨ i = 7 ∨ i = 8 ∨ i = 9 ∨ i = 10 ∨ i = 11 ∨ i = 12 ∨ i = 13 ∨ i = 14 ∨ i = 15 by omega) with rfl | rfl | rfl | rfl | rfl | rfl | rfl | rfl | rfl | rfl | rfl | rfl | rfl | rfl | rfl
  · exact g_ne1 j hj
  · exact g_ne2 j hj
  · exact g_ne3 j hj
  · exact g_ne4 j hj
  · exact g_ne5 j hj
  · exact g_ne6 j hj
  · exact g_ne7 j hj
  · exact g_ne8 j hj
  · exact g_ne9 j hj
  · exact g_ne10 j hj
  · exact g_ne11 j hj
  · exact g_ne12 j hj
  · exact g_ne13 j hj
  · exact g_ne14 j hj
  · exact g_ne15 j hj
theorem g_el : ∀ j, j < 16 → Cond.eq (.elem (.static gE "ALL" "[LStruckWords$Keyword;") (.int (Int32.ofNat j))) (.static gE (kwN.getD j "") gD) ∈ flatC (given_1.and narrow_1) := by decide +kernel
theorem g_sw : ∀ j, j < 16 → Cond.eq (.elem (.static "StruckWords$1" gM "[I") (.int (Int32.ofNat j))) (.int (swT.getD j 0)) ∈ flatC (given_1.and narrow_1) := by decide +kernel
theorem g_w : ∀ w ∈ ([.initialized gE, .initialized "StruckWords$1", .laysStatic gE "ALL" "[LStruckWords$Keyword;", .laysStatic "StruckWords$1" gM "[I"] : List Cond), w ∈ lw_tbl := by decide +kernel
theorem g_a : ∀ w ∈ ([.arrayOf (.static gE "ALL" "[LStruckWords$Keyword;") (.object gE), .eq (.length (.static gE "ALL" "[LStruckWords$Keyword;")) (.int 16), .arrayOf (.static "StruckWords$1" gM "[I") .int, .eq (.length (.static "StruckWords$1" gM "[I")) (.int 16)] : List Cond), w ∈ flatC (given_1.and narrow_1) := by decide +kernel
theorem g_x : ∀ w ∈ ([.exactly (.string "StruckWords" 104) "java/lang/String", .exactly (.string "StruckWords" 233) "java/lang/String", .isRef (.static Bundle.tN "UNASSIGNED_STACK" Bundle.steD), .isRef (.static Bundle.tN "SUPPRESSED_SENTINEL" Bundle.listD)] : List Cond), w ∈ flatC (given_1.and narrow_1) := by decide +kernel
theorem g_t : ∀ w ∈ ([.stringRef "StruckWords" 104 "no such saying, or nothing such of it", .stringRef "StruckWords" 233 "no such meaning, or neither above nor below", .castable xE xE, .declares (Bundle.initS xR), .declares (Bundle.initS "java/lang/Exception"), .declares (Bundle.initS Bundle.tN), .laysStatic Bundle.tN "UNASSIGNED_STACK" Bundle.steD, .laysStatic Bundle.tN "SUPPRESSED_SENTINEL" Bundle.listD, .initialized Bundle.tN] : List Cond), w ∈ lw_tbl := by decide +kernel
theorem g_n : (∀ q ∈ nestI, Cond.methodLinkNest q.1 q.2.1 ⟨q.2.2, "<init>", "()V"⟩ "StruckWords" ∈ lw_tbl) ∧ Cond.methodLinkNest "StruckWords$Tear" 134 ⟨"StruckWords", "meaningsWith", "(I)I"⟩ "StruckWords" ∈ lw_tbl := by decide +kernel
theorem g_r : ∀ w ∈ ([.arrayOver (.object "StruckWords$Row"), .arrayOver (.object "StruckWords$Matter"), .arrayClass .int, .arrayClass .long, .arrayClass .byte, .arrayClass .boolean] : List Cond), w ∈ lw_tbl := by decide +kernel
theorem g_i : ∀ c, c < 12 → ∀ q, vwCl[c]? = some q → (∀ w ∈ u_ws q.1 q.2.1 q.2.2, w ∈ tbl) ∧ Cond.instantiable q.1 q.2.2 ∈ tbl := by
  intro c hc q hq
  rcases (show c = 0 ∨ c = 1 ∨ c = 2 ∨ c = 3 ∨ c = 4 ∨ c = 5 ∨ c = 6 ∨ c = 7 ∨ c = 8 ∨ c = 9 ∨ c = 10 ∨ c = 11 by omega) with rfl | rfl | rfl | rfl | rfl | rfl | rfl | rfl | rfl | rfl | rfl | rfl <;> cases hq
  · exact ⟨iX1, by decide +kernel⟩
  · exact ⟨iX2, by decide +kernel⟩
  · exact ⟨iX3, by decide +kernel⟩
  · exact ⟨iX5, by decide +kernel⟩
  · exact ⟨iX6, by decide +kernel⟩
  · exact ⟨iX7, by decide +kernel⟩
  · exact ⟨iX8, by decide +kernel⟩
  · exact ⟨iX9, by decide +kernel⟩
  · exact ⟨iX10, by decide +kernel⟩
  · exact ⟨iX11, by decide +kernel⟩
  · exact ⟨iX12, by decide +kernel⟩
  · exact ⟨iX13, by decide +kernel⟩
