theorem aK_0 : Cond.arrayClass .int ∈ tbl := in_1 59 rfl rfl
theorem aK_1 : Cond.arrayClass .long ∈ tbl := in_2 7 rfl rfl
theorem aK_2 : Cond.arrayClass .byte ∈ tbl := in_6 29 rfl rfl
theorem aK_3 : Cond.arrayClass .boolean ∈ tbl := in_2 64 rfl rfl
theorem cK_10_15 : Cond.classLink "StruckWords$Tongue" 15 "StruckWords$Edict" ∈ tbl := in_1 130 rfl rfl
theorem cK_11_25 : Cond.classLink "StruckWords$Walk" 25 "StruckWords$Row" ∈ tbl := in_2 77 rfl rfl
theorem cK_12_18 : Cond.classLink "StruckWords" 18 "StruckWords$Reader" ∈ tbl := in_1 60 rfl rfl
theorem cK_12_25 : Cond.classLink "StruckWords" 25 "StruckWords$Matter" ∈ tbl := in_1 118 rfl rfl
theorem cK_12_40 : Cond.classLink "StruckWords" 40 "StruckWords$Judge" ∈ tbl := in_2 31 rfl rfl
theorem cK_12_47 : Cond.classLink "StruckWords" 47 "StruckWords$Finder" ∈ tbl := in_2 65 rfl rfl
theorem cK_12_54 : Cond.classLink "StruckWords" 54 "StruckWords$Tear" ∈ tbl := in_2 135 rfl rfl
theorem cK_12_64 : Cond.classLink "StruckWords" 64 "StruckWords$Tongue" ∈ tbl := in_2 190 rfl rfl
theorem cK_12_9 : Cond.classLink "StruckWords" 9 "StruckWords$Row" ∈ tbl := in_1 32 rfl rfl
theorem cK_2_18 : Cond.classLink "StruckWords$Finder" 18 "StruckWords$Edict" ∈ tbl := in_2 111 rfl rfl
theorem cK_2_25 : Cond.classLink "StruckWords$Finder" 25 "StruckWords$Row" ∈ tbl := in_2 113 rfl rfl
theorem cK_2_9 : Cond.classLink "StruckWords$Finder" 9 "StruckWords$Walk" ∈ tbl := in_2 71 rfl rfl
theorem cK_3_9 : Cond.classLink "StruckWords$Judge" 9 "StruckWords$Row" ∈ tbl := in_2 37 rfl rfl
theorem cK_5_18 : Cond.classLink "StruckWords$Matter" 18 "StruckWords$Row" ∈ tbl := in_2 8 rfl rfl
theorem cK_5_9 : Cond.classLink "StruckWords$Matter" 9 "StruckWords$Tongue" ∈ tbl := in_1 124 rfl rfl
theorem cK_6_9 : Cond.classLink "StruckWords$Reader" 9 "StruckWords$Tokens" ∈ tbl := in_1 66 rfl rfl
theorem cK_8_9 : Cond.classLink "StruckWords$Tear" 9 "StruckWords$Row" ∈ tbl := in_2 141 rfl rfl
theorem df_c1 : ∀ j : Nat, j < 2 → defaultValue (tyX1 j) = vp_V ((knA 0).map dfv) j := by decide
theorem df_c10 : ∀ j : Nat, j < 15 → defaultValue (tyX10 j) = vp_V ((knA 8).map dfv) j := by decide
theorem df_c11 : ∀ j : Nat, j < 9 → defaultValue (tyX11 j) = vp_V ((knA 9).map dfv) j := by decide
theorem df_c2 : ∀ j : Nat, j < 6 → defaultValue (tyX2 j) = vp_V ((knA 1).map dfv) j := by decide
theorem df_c3 : ∀ j : Nat, j < 8 → defaultValue (tyX3 j) = vp_V ((knA 2).map dfv) j := by decide
theorem df_c5 : ∀ j : Nat, j < 4 → defaultValue (tyX5 j) = vp_V ((knA 3).map dfv) j := by decide
theorem df_c6 : ∀ j : Nat, j < 6 → defaultValue (tyX6 j) = vp_V ((knA 4).map dfv) j := by decide
theorem df_c7 : ∀ j : Nat, j < 2 → defaultValue (tyX7 j) = vp_V ((knA 5).map dfv) j := by decide
theorem df_c8 : ∀ j : Nat, j < 13 → defaultValue (tyX8 j) = vp_V ((knA 6).map dfv) j := by decide
theorem df_c9 : ∀ j : Nat, j < 7 → defaultValue (tyX9 j) = vp_V ((knA 7).map dfv) j := by decide
theorem fq_10_11 : FQ "StruckWords$Tongue" 11 8 3 := ⟨RX10, TX10, 15, tyX10, rfl, iX10, by decide, in_1 179 rfl rfl, tyX10_ok, nmX10, rfl, rfl, rfl⟩
theorem fq_10_18 : FQ "StruckWords$Tongue" 18 8 4 := ⟨RX10, TX10, 15, tyX10, rfl, iX10, by decide, in_1 182 rfl rfl, tyX10_ok, nmX10, rfl, rfl, rfl⟩
theorem fq_10_22 : FQ "StruckWords$Tongue" 22 8 5 := ⟨RX10, TX10, 15, tyX10, rfl, iX10, by decide, in_1 188 rfl rfl, tyX10_ok, nmX10, rfl, rfl, rfl⟩
theorem fq_10_25 : FQ "StruckWords$Tongue" 25 8 6 := ⟨RX10, TX10, 15, tyX10, rfl, iX10, by decide, in_1 191 rfl rfl, tyX10_ok, nmX10, rfl, rfl, rfl⟩
theorem fq_10_29 : FQ "StruckWords$Tongue" 29 8 8 := ⟨RX10, TX10, 15, tyX10, rfl, iX10, by decide, in_1 195 rfl rfl, tyX10_ok, nmX10, rfl, rfl, rfl⟩
theorem fq_10_32 : FQ "StruckWords$Tongue" 32 8 9 := ⟨RX10, TX10, 15, tyX10, rfl, iX10, by decide, in_1 200 rfl rfl, tyX10_ok, nmX10, rfl, rfl, rfl⟩
theorem fq_10_35 : FQ "StruckWords$Tongue" 35 8 10 := ⟨RX10, TX10, 15, tyX10, rfl, iX10, by decide, in_1 204 rfl rfl, tyX10_ok, nmX10, rfl, rfl, rfl⟩
theorem fq_10_38 : FQ "StruckWords$Tongue" 38 8 12 := ⟨RX10, TX10, 15, tyX10, rfl, iX10, by decide, in_1 212 rfl rfl, tyX10_ok, nmX10, rfl, rfl, rfl⟩
theorem fq_10_41 : FQ "StruckWords$Tongue" 41 8 13 := ⟨RX10, TX10, 15, tyX10, rfl, iX10, by decide, in_1 214 rfl rfl, tyX10_ok, nmX10, rfl, rfl, rfl⟩
theorem fq_10_44 : FQ "StruckWords$Tongue" 44 8 14 := ⟨RX10, TX10, 15, tyX10, rfl, iX10, by decide, in_1 215 rfl rfl, tyX10_ok, nmX10, rfl, rfl, rfl⟩
theorem fq_11_15 : FQ "StruckWords$Walk" 15 9 1 := ⟨RX11, TX11, 9, tyX11, rfl, iX11, by decide, in_2 80 rfl rfl, tyX11_ok, nmX11, rfl, rfl, rfl⟩
theorem fq_11_19 : FQ "StruckWords$Walk" 19 9 2 := ⟨RX11, TX11, 9, tyX11, rfl, iX11, by decide, in_2 81 rfl rfl, tyX11_ok, nmX11, rfl, rfl, rfl⟩
theorem fq_11_22 : FQ "StruckWords$Walk" 22 9 3 := ⟨RX11, TX11, 9, tyX11, rfl, iX11, by decide, in_2 82 rfl rfl, tyX11_ok, nmX11, rfl, rfl, rfl⟩
theorem fq_11_30 : FQ "StruckWords$Walk" 30 9 4 := ⟨RX11, TX11, 9, tyX11, rfl, iX11, by decide, in_2 84 rfl rfl, tyX11_ok, nmX11, rfl, rfl, rfl⟩
theorem fq_11_9 : FQ "StruckWords$Walk" 9 9 0 := ⟨RX11, TX11, 9, tyX11, rfl, iX11, by decide, in_2 79 rfl rfl, tyX11_ok, nmX11, rfl, rfl, rfl⟩
theorem fq_12_14 : FQ "StruckWords" 14 10 0 := ⟨RX12, TX12, 12, tyX12, rfl, iX12, by decide, in_2 192 rfl rfl, tyX12_ok, nmX12, rfl, rfl, rfl⟩
theorem fq_12_21 : FQ "StruckWords" 21 10 1 := ⟨RX12, TX12, 12, tyX12, rfl, iX12, by decide, in_2 193 rfl rfl, tyX12_ok, nmX12, rfl, rfl, rfl⟩
theorem fq_12_28 : FQ "StruckWords" 28 10 2 := ⟨RX12, TX12, 12, tyX12, rfl, iX12, by decide, in_2 194 rfl rfl, tyX12_ok, nmX12, rfl, rfl, rfl⟩
theorem fq_12_32 : FQ "StruckWords" 32 10 3 := ⟨RX12, TX12, 12, tyX12, rfl, iX12, by decide, in_2 195 rfl rfl, tyX12_ok, nmX12, rfl, rfl, rfl⟩
theorem fq_12_36 : FQ "StruckWords" 36 10 4 := ⟨RX12, TX12, 12, tyX12, rfl, iX12, by decide, in_2 196 rfl rfl, tyX12_ok, nmX12, rfl, rfl, rfl⟩
theorem fq_12_43 : FQ "StruckWords" 43 10 5 := ⟨RX12, TX12, 12, tyX12, rfl, iX12, by decide, in_2 197 rfl rfl, tyX12_ok, nmX12, rfl, rfl, rfl⟩
theorem fq_12_50 : FQ "StruckWords" 50 10 6 := ⟨RX12, TX12, 12, tyX12, rfl, iX12, by decide, in_2 198 rfl rfl, tyX12_ok, nmX12, rfl, rfl, rfl⟩
theorem fq_12_57 : FQ "StruckWords" 57 10 7 := ⟨RX12, TX12, 12, tyX12, rfl, iX12, by decide, in_2 199 rfl rfl, tyX12_ok, nmX12, rfl, rfl, rfl⟩
theorem fq_12_61 : FQ "StruckWords" 61 10 8 := ⟨RX12, TX12, 12, tyX12, rfl, iX12, by decide, in_2 200 rfl rfl, tyX12_ok, nmX12, rfl, rfl, rfl⟩
theorem fq_12_67 : FQ "StruckWords" 67 10 9 := ⟨RX12, TX12, 12, tyX12, rfl, iX12, by decide, in_2 201 rfl rfl, tyX12_ok, nmX12, rfl, rfl, rfl⟩
theorem fq_12_71 : FQ "StruckWords" 71 10 10 := ⟨RX12, TX12, 12, tyX12, rfl, iX12, by decide, in_2 202 rfl rfl, tyX12_ok, nmX12, rfl, rfl, rfl⟩
theorem fq_13_102 : FQ "StruckWordsModel" 102 11 46 := ⟨RX13, TX13, 57, tyX13, rfl, iX13, by decide, in_6 129 rfl rfl, tyX13_ok, nmX13, rfl, rfl, rfl⟩
theorem fq_13_105 : FQ "StruckWordsModel" 105 11 47 := ⟨RX13, TX13, 57, tyX13, rfl, iX13, by decide, in_6 130 rfl rfl, tyX13_ok, nmX13, rfl, rfl, rfl⟩
theorem fq_13_108 : FQ "StruckWordsModel" 108 11 48 := ⟨RX13, TX13, 57, tyX13, rfl, iX13, by decide, in_6 131 rfl rfl, tyX13_ok, nmX13, rfl, rfl, rfl⟩
theorem fq_13_111 : FQ "StruckWordsModel" 111 11 49 := ⟨RX13, TX13, 57, tyX13, rfl, iX13, by decide, in_6 132 rfl rfl, tyX13_ok, nmX13, rfl, rfl, rfl⟩
theorem fq_13_114 : FQ "StruckWordsModel" 114 11 50 := ⟨RX13, TX13, 57, tyX13, rfl, iX13, by decide, in_6 133 rfl rfl, tyX13_ok, nmX13, rfl, rfl, rfl⟩
theorem fq_13_117 : FQ "StruckWordsModel" 117 11 54 := ⟨RX13, TX13, 57, tyX13, rfl, iX13, by decide, in_6 137 rfl rfl, tyX13_ok, nmX13, rfl, rfl, rfl⟩
theorem fq_13_120 : FQ "StruckWordsModel" 120 11 55 := ⟨RX13, TX13, 57, tyX13, rfl, iX13, by decide, in_6 138 rfl rfl, tyX13_ok, nmX13, rfl, rfl, rfl⟩
theorem fq_13_123 : FQ "StruckWordsModel" 123 11 56 := ⟨RX13, TX13, 57, tyX13, rfl, iX13, by decide, in_6 139 rfl rfl, tyX13_ok, nmX13, rfl, rfl, rfl⟩
theorem fq_13_14 : FQ "StruckWordsModel" 14 11 1 := ⟨RX13, TX13, 57, tyX13, rfl, iX13, by decide, in_6 84 rfl rfl, tyX13_ok, nmX13, rfl, rfl, rfl⟩
theorem fq_13_33 : FQ "StruckWordsModel" 33 11 6 := ⟨RX13, TX13, 57, tyX13, rfl, iX13, by decide, in_6 89 rfl rfl, tyX13_ok, nmX13, rfl, rfl, rfl⟩
theorem fq_13_37 : FQ "StruckWordsModel" 37 11 7 := ⟨RX13, TX13, 57, tyX13, rfl, iX13, by decide, in_6 90 rfl rfl, tyX13_ok, nmX13, rfl, rfl, rfl⟩
theorem fq_13_40 : FQ "StruckWordsModel" 40 11 8 := ⟨RX13, TX13, 57, tyX13, rfl, iX13, by decide, in_6 91 rfl rfl, tyX13_ok, nmX13, rfl, rfl, rfl⟩
theorem fq_13_44 : FQ "StruckWordsModel" 44 11 9 := ⟨RX13, TX13, 57, tyX13, rfl, iX13, by decide, in_6 92 rfl rfl, tyX13_ok, nmX13, rfl, rfl, rfl⟩
theorem fq_13_47 : FQ "StruckWordsModel" 47 11 21 := ⟨RX13, TX13, 57, tyX13, rfl, iX13, by decide, in_6 104 rfl rfl, tyX13_ok, nmX13, rfl, rfl, rfl⟩
theorem fq_13_50 : FQ "StruckWordsModel" 50 11 22 := ⟨RX13, TX13, 57, tyX13, rfl, iX13, by decide, in_6 105 rfl rfl, tyX13_ok, nmX13, rfl, rfl, rfl⟩
theorem fq_13_53 : FQ "StruckWordsModel" 53 11 23 := ⟨RX13, TX13, 57, tyX13, rfl, iX13, by decide, in_6 106 rfl rfl, tyX13_ok, nmX13, rfl, rfl, rfl⟩
theorem fq_13_56 : FQ "StruckWordsModel" 56 11 28 := ⟨RX13, TX13, 57, tyX13, rfl, iX13, by decide, in_6 111 rfl rfl, tyX13_ok, nmX13, rfl, rfl, rfl⟩
theorem fq_13_59 : FQ "StruckWordsModel" 59 11 29 := ⟨RX13, TX13, 57, tyX13, rfl, iX13, by decide, in_6 112 rfl rfl, tyX13_ok, nmX13, rfl, rfl, rfl⟩
theorem fq_13_62 : FQ "StruckWordsModel" 62 11 30 := ⟨RX13, TX13, 57, tyX13, rfl, iX13, by decide, in_6 113 rfl rfl, tyX13_ok, nmX13, rfl, rfl, rfl⟩
theorem fq_13_69 : FQ "StruckWordsModel" 69 11 32 := ⟨RX13, TX13, 57, tyX13, rfl, iX13, by decide, in_6 115 rfl rfl, tyX13_ok, nmX13, rfl, rfl, rfl⟩
theorem fq_13_72 : FQ "StruckWordsModel" 72 11 33 := ⟨RX13, TX13, 57, tyX13, rfl, iX13, by decide, in_6 116 rfl rfl, tyX13_ok, nmX13, rfl, rfl, rfl⟩
theorem fq_13_75 : FQ "StruckWordsModel" 75 11 34 := ⟨RX13, TX13, 57, tyX13, rfl, iX13, by decide, in_6 117 rfl rfl, tyX13_ok, nmX13, rfl, rfl, rfl⟩
theorem fq_13_78 : FQ "StruckWordsModel" 78 11 35 := ⟨RX13, TX13, 57, tyX13, rfl, iX13, by decide, in_6 118 rfl rfl, tyX13_ok, nmX13, rfl, rfl, rfl⟩
theorem fq_13_81 : FQ "StruckWordsModel" 81 11 36 := ⟨RX13, TX13, 57, tyX13, rfl, iX13, by decide, in_6 119 rfl rfl, tyX13_ok, nmX13, rfl, rfl, rfl⟩
theorem fq_13_84 : FQ "StruckWordsModel" 84 11 37 := ⟨RX13, TX13, 57, tyX13, rfl, iX13, by decide, in_6 120 rfl rfl, tyX13_ok, nmX13, rfl, rfl, rfl⟩
theorem fq_13_87 : FQ "StruckWordsModel" 87 11 38 := ⟨RX13, TX13, 57, tyX13, rfl, iX13, by decide, in_6 121 rfl rfl, tyX13_ok, nmX13, rfl, rfl, rfl⟩
theorem fq_13_90 : FQ "StruckWordsModel" 90 11 39 := ⟨RX13, TX13, 57, tyX13, rfl, iX13, by decide, in_6 122 rfl rfl, tyX13_ok, nmX13, rfl, rfl, rfl⟩
theorem fq_13_93 : FQ "StruckWordsModel" 93 11 40 := ⟨RX13, TX13, 57, tyX13, rfl, iX13, by decide, in_6 123 rfl rfl, tyX13_ok, nmX13, rfl, rfl, rfl⟩
theorem fq_13_96 : FQ "StruckWordsModel" 96 11 41 := ⟨RX13, TX13, 57, tyX13, rfl, iX13, by decide, in_6 124 rfl rfl, tyX13_ok, nmX13, rfl, rfl, rfl⟩
theorem fq_13_99 : FQ "StruckWordsModel" 99 11 45 := ⟨RX13, TX13, 57, tyX13, rfl, iX13, by decide, in_6 128 rfl rfl, tyX13_ok, nmX13, rfl, rfl, rfl⟩
theorem fq_2_12 : FQ "StruckWords$Finder" 12 1 0 := ⟨RX2, TX2, 6, tyX2, rfl, iX2, by decide, in_2 115 rfl rfl, tyX2_ok, nmX2, rfl, rfl, rfl⟩
theorem fq_2_21 : FQ "StruckWords$Finder" 21 1 1 := ⟨RX2, TX2, 6, tyX2, rfl, iX2, by decide, in_2 116 rfl rfl, tyX2_ok, nmX2, rfl, rfl, rfl⟩
theorem fq_2_30 : FQ "StruckWords$Finder" 30 1 5 := ⟨RX2, TX2, 6, tyX2, rfl, iX2, by decide, in_2 120 rfl rfl, tyX2_ok, nmX2, rfl, rfl, rfl⟩
theorem fq_3_14 : FQ "StruckWords$Judge" 14 2 0 := ⟨RX3, TX3, 8, tyX3, rfl, iX3, by decide, in_2 39 rfl rfl, tyX3_ok, nmX3, rfl, rfl, rfl⟩
theorem fq_3_20 : FQ "StruckWords$Judge" 20 2 1 := ⟨RX3, TX3, 8, tyX3, rfl, iX3, by decide, in_2 40 rfl rfl, tyX3_ok, nmX3, rfl, rfl, rfl⟩
theorem fq_3_24 : FQ "StruckWords$Judge" 24 2 2 := ⟨RX3, TX3, 8, tyX3, rfl, iX3, by decide, in_2 41 rfl rfl, tyX3_ok, nmX3, rfl, rfl, rfl⟩
theorem fq_3_27 : FQ "StruckWords$Judge" 27 2 3 := ⟨RX3, TX3, 8, tyX3, rfl, iX3, by decide, in_2 42 rfl rfl, tyX3_ok, nmX3, rfl, rfl, rfl⟩
theorem fq_3_31 : FQ "StruckWords$Judge" 31 2 4 := ⟨RX3, TX3, 8, tyX3, rfl, iX3, by decide, in_2 43 rfl rfl, tyX3_ok, nmX3, rfl, rfl, rfl⟩
theorem fq_3_34 : FQ "StruckWords$Judge" 34 2 5 := ⟨RX3, TX3, 8, tyX3, rfl, iX3, by decide, in_2 44 rfl rfl, tyX3_ok, nmX3, rfl, rfl, rfl⟩
theorem fq_3_37 : FQ "StruckWords$Judge" 37 2 7 := ⟨RX3, TX3, 8, tyX3, rfl, iX3, by decide, in_2 46 rfl rfl, tyX3_ok, nmX3, rfl, rfl, rfl⟩
theorem fq_5_12 : FQ "StruckWords$Matter" 12 3 0 := ⟨RX5, TX5, 4, tyX5, rfl, iX5, by decide, in_2 11 rfl rfl, tyX5_ok, nmX5, rfl, rfl, rfl⟩
theorem fq_5_23 : FQ "StruckWords$Matter" 23 3 1 := ⟨RX5, TX5, 4, tyX5, rfl, iX5, by decide, in_2 14 rfl rfl, tyX5_ok, nmX5, rfl, rfl, rfl⟩
theorem fq_5_27 : FQ "StruckWords$Matter" 27 3 2 := ⟨RX5, TX5, 4, tyX5, rfl, iX5, by decide, in_2 17 rfl rfl, tyX5_ok, nmX5, rfl, rfl, rfl⟩
theorem fq_6_12 : FQ "StruckWords$Reader" 12 4 0 := ⟨RX6, TX6, 6, tyX6, rfl, iX6, by decide, in_1 98 rfl rfl, tyX6_ok, nmX6, rfl, rfl, rfl⟩
theorem fq_7_15 : FQ "StruckWords$Row" 15 5 0 := ⟨RX7, TX7, 2, tyX7, rfl, iX7, by decide, in_1 41 rfl rfl, tyX7_ok, nmX7, rfl, rfl, rfl⟩
theorem fq_8_14 : FQ "StruckWords$Tear" 14 6 6 := ⟨RX8, TX8, 13, tyX8, rfl, iX8, by decide, in_2 155 rfl rfl, tyX8_ok, nmX8, rfl, rfl, rfl⟩
theorem fq_8_20 : FQ "StruckWords$Tear" 20 6 8 := ⟨RX8, TX8, 13, tyX8, rfl, iX8, by decide, in_2 158 rfl rfl, tyX8_ok, nmX8, rfl, rfl, rfl⟩
theorem fq_8_24 : FQ "StruckWords$Tear" 24 6 10 := ⟨RX8, TX8, 13, tyX8, rfl, iX8, by decide, in_2 160 rfl rfl, tyX8_ok, nmX8, rfl, rfl, rfl⟩
theorem fq_8_28 : FQ "StruckWords$Tear" 28 6 11 := ⟨RX8, TX8, 13, tyX8, rfl, iX8, by decide, in_2 161 rfl rfl, tyX8_ok, nmX8, rfl, rfl, rfl⟩
theorem fq_8_31 : FQ "StruckWords$Tear" 31 6 12 := ⟨RX8, TX8, 13, tyX8, rfl, iX8, by decide, in_2 162 rfl rfl, tyX8_ok, nmX8, rfl, rfl, rfl⟩
theorem ii_c1 : Cond.initialized "StruckWords$Edict" ∈ tbl := in_1 8 rfl rfl
theorem ii_c10 : Cond.initialized "StruckWords$Tongue" ∈ tbl := in_1 7 rfl rfl
theorem ii_c11 : Cond.initialized "StruckWords$Walk" ∈ tbl := in_1 12 rfl rfl
theorem ii_c2 : Cond.initialized "StruckWords$Finder" ∈ tbl := in_1 11 rfl rfl
theorem ii_c3 : Cond.initialized "StruckWords$Judge" ∈ tbl := in_1 10 rfl rfl
theorem ii_c5 : Cond.initialized "StruckWords$Matter" ∈ tbl := in_1 6 rfl rfl
theorem ii_c6 : Cond.initialized "StruckWords$Reader" ∈ tbl := in_1 4 rfl rfl
theorem ii_c7 : Cond.initialized "StruckWords$Row" ∈ tbl := in_1 2 rfl rfl
theorem ii_c8 : Cond.initialized "StruckWords$Tear" ∈ tbl := in_1 13 rfl rfl
theorem ii_c9 : Cond.initialized "StruckWords$Tokens" ∈ tbl := in_1 5 rfl rfl
theorem in_c1 : Cond.instantiable "StruckWords$Edict" 2 ∈ tbl := in_1 131 rfl rfl
theorem in_c10 : Cond.instantiable "StruckWords$Tongue" 15 ∈ tbl := in_1 125 rfl rfl
theorem in_c11 : Cond.instantiable "StruckWords$Walk" 9 ∈ tbl := in_2 72 rfl rfl
theorem in_c2 : Cond.instantiable "StruckWords$Finder" 6 ∈ tbl := in_2 66 rfl rfl
theorem in_c3 : Cond.instantiable "StruckWords$Judge" 8 ∈ tbl := in_2 32 rfl rfl
theorem in_c5 : Cond.instantiable "StruckWords$Matter" 4 ∈ tbl := in_1 119 rfl rfl
theorem in_c6 : Cond.instantiable "StruckWords$Reader" 6 ∈ tbl := in_1 61 rfl rfl
theorem in_c7 : Cond.instantiable "StruckWords$Row" 2 ∈ tbl := in_1 33 rfl rfl
theorem in_c8 : Cond.instantiable "StruckWords$Tear" 13 ∈ tbl := in_2 136 rfl rfl
theorem in_c9 : Cond.instantiable "StruckWords$Tokens" 7 ∈ tbl := in_1 67 rfl rfl
set_option maxRecDepth 100000 in
theorem tFA_J7_fill_d0a16_6 {κ : Kx} (X : OKA κ cJ7_fill_d0a16 5 "java/util/Arrays" "fill" 2 0 0) (x0 : Nat) (x1 : Int64) (x4 : Int32) (k22 : Ga → Option Ga) (self : Int32 → Ga → Option Ga) (x3 : Int32) (h : Ga) (q : Ga) (hk22 : ∀ (h : Ga) (q : Ga), k22 h = some q → JA κ 22 [] [] h (q.1, q.2.2.2)) (hself : ∀ (x3 : Int32) (h : Ga) (q : Ga), self x3 h = some q → JA κ 6 [(0, .inr (.inr x0)), (1, .inr (.inl x1)), (3, .inl x3), (4, .inl x4)] [] h (q.1, q.2.2.2)) (hq : FA_J7_fill_d0a16_6 x0 x1 x4 k22 self x3 h = some q) : JA κ 6 [(0, .inr (.inr x0)), (1, .inr (.inl x1)), (3, .inl x3), (4, .inl x4)] [] h (q.1, q.2.2.2) := by
  delta FA_J7_fill_d0a16_6 at hq
  refine A_iload_n (pc := 6) X (j := 2) (i := 3) rfl rfl dJ7_fill_d0a16_6 ?_
  refine A_iload (pc := 7) X (j := 3) rfl dJ7_fill_d0a16_7 ?_
  refine A_icmp_ge (pc := 9) (tgt := 22) X dJ7_fill_d0a16_9 rfl (fun c3 => ?_) (fun c3 => ?_)
  · have hq := ite_t hq c3
    refine A_sub [] rfl ?_
    exact hk22 _ _ hq
  · have hq := ite_f hq c3
    refine A_aload_n (pc := 12) X (j := 0) (i := 0) rfl rfl dJ7_fill_d0a16_12 ?_
    refine A_iload_n (pc := 13) X (j := 2) (i := 3) rfl rfl dJ7_fill_d0a16_13 ?_
    refine A_lload_n (pc := 14) X (j := 1) (i := 1) rfl rfl dJ7_fill_d0a16_14 ?_
    obtain ⟨g4, hq⟩ := gd hq
    refine A_lastore (pc := 15) X g4 dJ7_fill_d0a16_15 ?_
    refine A_ltH hq (fun h5 hq => ?_)
    refine A_iinc (pc := 16) X (j := 2) (v := 1) (L' := [(3, .inl (x3 + 1)), (0, .inr (.inr x0)), (1, .inr (.inl x1)), (4, .inl x4)]) rfl (by decide) (by decide) rfl dJ7_fill_d0a16_16 ?_
    refine A_goto (pc := 19) X (tgt := 6) dJ7_fill_d0a16_19 rfl ?_
    refine A_sub [1, 2, 0, 3] rfl ?_
    exact hself _ _ _ hq
set_option maxRecDepth 100000 in
theorem tLA_J7_fill_d0a16_6 {κ : Kx} (X : OKA κ cJ7_fill_d0a16 5 "java/util/Arrays" "fill" 2 0 0) (x0 : Nat) (x1 : Int64) (x4 : Int32) (k22 : Ga → Option Ga) (N : Nat) (x3 : Int32) (h : Ga) (q : Ga) (hk22 : ∀ (h : Ga) (q : Ga), k22 h = some q → JA κ 22 [] [] h (q.1, q.2.2.2)) (hq : itr2 (FA_J7_fill_d0a16_6 x0 x1 x4 k22) N x3 h = some q) : JA κ 6 [(0, .inr (.inr x0)), (1, .inr (.inl x1)), (3, .inl x3), (4, .inl x4)] [] h (q.1, q.2.2.2) :=
  itr2_ind (fun self hs x3 h q hq => tFA_J7_fill_d0a16_6 X x0 x1 x4 k22 self x3 h q hk22 hs hq) N x3 h q hq
set_option maxRecDepth 100000 in
theorem tfA_J7_fill_d0a16 {κ : Kx} (X : OKA κ cJ7_fill_d0a16 5 "java/util/Arrays" "fill" 2 0 0) (x0 : Nat) (x1 : Int64) (h : Ga) (q : Ga) (hq : fA_J7_fill_d0a16 x0 x1 h = some q) : JA κ 0 [(0, .inr (.inr x0)), (1, .inr (.inl x1))] [] h (q.1, q.2.2.2) := by
  delta fA_J7_fill_d0a16 at hq
  refine A_iconst (pc := 0) X (v := 0) (by decide) dJ7_fill_d0a16_0 ?_
  refine A_istore_n (pc := 1) X (L' := [(3, .inl 0), (0, .inr (.inr x0)), (1, .inr (.inl x1))]) (i := 3) rfl (by decide) rfl dJ7_fill_d0a16_1 ?_
  refine A_aload_n (pc := 2) X (j := 1) (i := 0) rfl rfl dJ7_fill_d0a16_2 ?_
  obtain ⟨g1, hq⟩ := gd hq
  refine A_alen (pc := 3) X g1 (by decide) dJ7_fill_d0a16_3 ?_
  refine A_ltI hq (fun v2 hq => ?_)
  refine A_istore (pc := 4) X (L' := [(4, .inl v2), (3, .inl 0), (0, .inr (.inr x0)), (1, .inr (.inl x1))]) (by decide) rfl dJ7_fill_d0a16_4 ?_
  refine A_sub [2, 3, 1, 0] rfl ?_
  refine tLA_J7_fill_d0a16_6 X _ _ _ _ N0 _ _ _ ?_ hq
  · intro h6 q hq
    obtain ⟨g7, hq⟩ := gd hq
    obtain rfl := Option.some.inj hq
    exact A_vret (pc := 22) X g7 dJ7_fill_d0a16_22
set_option maxRecDepth 100000 in
theorem mA_J7_fill_d0a16 (x0 : Nat) (x1 : Int64) (n : Nat) (h : Hp) (q : Ga) (hq : fA_J7_fill_d0a16 x0 x1 (n, n, 0, h) = some q) : ∀ l w, CTA l w yJ7_fill_d0a16 cJ7_fill_d0a16 5 2 0 0 [.inr (.inr x0), .inr (.inl x1)] n h (q.1, q.2.2.2) :=
  CTA_of (L0 := [(0, .inr (.inr x0)), (1, .inr (.inl x1))]) (by decide) rfl (Nat.le_of_ble_eq_true rfl) (fun κ X => tfA_J7_fill_d0a16 X x0 x1 (n, n, 0, h) q hq)
set_option maxRecDepth 100000 in
theorem tFA_J7_fill_53178_5 {κ : Kx} (X : OKA κ cJ7_fill_53178 4 "java/util/Arrays" "fill" 2 0 0) (x0 : Nat) (x1 : Int32) (x3 : Int32) (k20 : Ga → Option Ga) (self : Int32 → Ga → Option Ga) (x2 : Int32) (h : Ga) (q : Ga) (hk20 : ∀ (h : Ga) (q : Ga), k20 h = some q → JA κ 20 [] [] h (q.1, q.2.2.2)) (hself : ∀ (x2 : Int32) (h : Ga) (q : Ga), self x2 h = some q → JA κ 5 [(0, .inr (.inr x0)), (1, .inl x1), (2, .inl x2), (3, .inl x3)] [] h (q.1, q.2.2.2)) (hq : FA_J7_fill_53178_5 x0 x1 x3 k20 self x2 h = some q) : JA κ 5 [(0, .inr (.inr x0)), (1, .inl x1), (2, .inl x2), (3, .inl x3)] [] h (q.1, q.2.2.2) := by
  delta FA_J7_fill_53178_5 at hq
  refine A_iload_n (pc := 5) X (j := 2) (i := 2) rfl rfl dJ7_fill_53178_5 ?_
  refine A_iload_n (pc := 6) X (j := 3) (i := 3) rfl rfl dJ7_fill_53178_6 ?_
  refine A_icmp_ge (pc := 7) (tgt := 20) X dJ7_fill_53178_7 rfl (fun c3 => ?_) (fun c3 => ?_)
  · have hq := ite_t hq c3
    refine A_sub [] rfl ?_
    exact hk20 _ _ hq
  · have hq := ite_f hq c3
    refine A_aload_n (pc := 10) X (j := 0) (i := 0) rfl rfl dJ7_fill_53178_10 ?_
    refine A_iload_n (pc := 11) X (j := 2) (i := 2) rfl rfl dJ7_fill_53178_11 ?_
    refine A_iload_n (pc := 12) X (j := 1) (i := 1) rfl rfl dJ7_fill_53178_12 ?_
    obtain ⟨g4, hq⟩ := gd hq
    refine A_iastore (pc := 13) X g4 dJ7_fill_53178_13 ?_
    refine A_ltH hq (fun h5 hq => ?_)
    refine A_iinc (pc := 14) X (j := 2) (v := 1) (L' := [(2, .inl (x2 + 1)), (0, .inr (.inr x0)), (1, .inl x1), (3, .inl x3)]) rfl (by decide) (by decide) rfl dJ7_fill_53178_14 ?_
    refine A_goto (pc := 17) X (tgt := 5) dJ7_fill_53178_17 rfl ?_
    refine A_sub [1, 2, 0, 3] rfl ?_
    exact hself _ _ _ hq
set_option maxRecDepth 100000 in
theorem tLA_J7_fill_53178_5 {κ : Kx} (X : OKA κ cJ7_fill_53178 4 "java/util/Arrays" "fill" 2 0 0) (x0 : Nat) (x1 : Int32) (x3 : Int32) (k20 : Ga → Option Ga) (N : Nat) (x2 : Int32) (h : Ga) (q : Ga) (hk20 : ∀ (h : Ga) (q : Ga), k20 h = some q → JA κ 20 [] [] h (q.1, q.2.2.2)) (hq : itr2 (FA_J7_fill_53178_5 x0 x1 x3 k20) N x2 h = some q) : JA κ 5 [(0, .inr (.inr x0)), (1, .inl x1), (2, .inl x2), (3, .inl x3)] [] h (q.1, q.2.2.2) :=
  itr2_ind (fun self hs x2 h q hq => tFA_J7_fill_53178_5 X x0 x1 x3 k20 self x2 h q hk20 hs hq) N x2 h q hq
set_option maxRecDepth 100000 in
theorem tfA_J7_fill_53178 {κ : Kx} (X : OKA κ cJ7_fill_53178 4 "java/util/Arrays" "fill" 2 0 0) (x0 : Nat) (x1 : Int32) (h : Ga) (q : Ga) (hq : fA_J7_fill_53178 x0 x1 h = some q) : JA κ 0 [(0, .inr (.inr x0)), (1, .inl x1)] [] h (q.1, q.2.2.2) := by
  delta fA_J7_fill_53178 at hq
  refine A_iconst (pc := 0) X (v := 0) (by decide) dJ7_fill_53178_0 ?_
  refine A_istore_n (pc := 1) X (L' := [(2, .inl 0), (0, .inr (.inr x0)), (1, .inl x1)]) (i := 2) rfl (by decide) rfl dJ7_fill_53178_1 ?_
  refine A_aload_n (pc := 2) X (j := 1) (i := 0) rfl rfl dJ7_fill_53178_2 ?_
  obtain ⟨g1, hq⟩ := gd hq
  refine A_alen (pc := 3) X g1 (by decide) dJ7_fill_53178_3 ?_
  refine A_ltI hq (fun v2 hq => ?_)
  refine A_istore_n (pc := 4) X (L' := [(3, .inl v2), (2, .inl 0), (0, .inr (.inr x0)), (1, .inl x1)]) (i := 3) rfl (by decide) rfl dJ7_fill_53178_4 ?_
  refine A_sub [2, 3, 1, 0] rfl ?_
  refine tLA_J7_fill_53178_5 X _ _ _ _ N0 _ _ _ ?_ hq
  · intro h6 q hq
    obtain ⟨g7, hq⟩ := gd hq
    obtain rfl := Option.some.inj hq
    exact A_vret (pc := 20) X g7 dJ7_fill_53178_20
set_option maxRecDepth 100000 in
theorem mA_J7_fill_53178 (x0 : Nat) (x1 : Int32) (n : Nat) (h : Hp) (q : Ga) (hq : fA_J7_fill_53178 x0 x1 (n, n, 0, h) = some q) : ∀ l w, CTA l w yJ7_fill_53178 cJ7_fill_53178 4 2 0 0 [.inr (.inr x0), .inl x1] n h (q.1, q.2.2.2) :=
  CTA_of (L0 := [(0, .inr (.inr x0)), (1, .inl x1)]) (by decide) rfl (Nat.le_of_ble_eq_true rfl) (fun κ X => tfA_J7_fill_53178 X x0 x1 (n, n, 0, h) q hq)
set_option maxRecDepth 100000 in
theorem tfA_X1_tell {κ : Kx} (X : OKA κ cX1_tell 3 "StruckWords$Edict" "tell" 2 0 0) (x0 : Nat) (x1 : Int32) (x2 : Int32) (h : Ga) (q : Ga) (hq : fA_X1_tell x0 x1 x2 h = some q) : JA κ 0 [(0, .inr (.inr x0)), (1, .inl x1), (2, .inl x2)] [] h (q.1, q.2.2.2) := by
  delta fA_X1_tell at hq
  refine A_aload_n (pc := 0) X (j := 0) (i := 0) rfl rfl dX1_tell_0 ?_
  refine A_iload_n (pc := 1) X (j := 1) (i := 1) rfl rfl dX1_tell_1 ?_
  obtain ⟨g1, hq⟩ := gd hq
  refine A_putI (pc := 2) X g1 fp_1_7 rfl dX1_tell_2 ?_
  refine A_ltH hq (fun h2 hq => ?_)
  refine A_aload_n (pc := 5) X (j := 0) (i := 0) rfl rfl dX1_tell_5 ?_
  refine A_iload_n (pc := 6) X (j := 2) (i := 2) rfl rfl dX1_tell_6 ?_
  obtain ⟨g3, hq⟩ := gd hq
  refine A_putI (pc := 7) X g3 fp_1_13 rfl dX1_tell_7 ?_
  refine A_ltH hq (fun h4 hq => ?_)
  obtain ⟨g5, hq⟩ := gd hq
  obtain rfl := Option.some.inj hq
  exact A_vret (pc := 10) X g5 dX1_tell_10
set_option maxRecDepth 100000 in
theorem mA_X1_tell (x0 : Nat) (x1 : Int32) (x2 : Int32) (n : Nat) (h : Hp) (q : Ga) (hq : fA_X1_tell x0 x1 x2 (n, n, 0, h) = some q) : ∀ l w, CTA l w yX1_tell cX1_tell 3 2 0 0 [.inr (.inr x0), .inl x1, .inl x2] n h (q.1, q.2.2.2) :=
  CTA_of (L0 := [(0, .inr (.inr x0)), (1, .inl x1), (2, .inl x2)]) (by decide) rfl (Nat.le_of_ble_eq_true rfl) (fun κ X => tfA_X1_tell X x0 x1 x2 (n, n, 0, h) q hq)
set_option maxRecDepth 100000 in
theorem tfA_X1_init {κ : Kx} (X : OKA κ cX1_init 1 "StruckWords$Edict" "<init>" 3 0 0) (x0 : Nat) (h : Ga) (q : Ga) (hq : fA_X1_init x0 h = some q) : JA κ 0 [(0, .inr (.inr x0))] [] h (q.1, q.2.2.2) := by
  delta fA_X1_init at hq
  refine A_aload_n (pc := 0) X (j := 0) (i := 0) rfl rfl dX1_init_0 ?_
  obtain ⟨g1, hq⟩ := gd hq
  refine A_objInit (pc := 1) X ml_1_1 (by decide) (Nat.le_of_ble_eq_true rfl) dX1_init_1 (of_decide_eq_true g1) ?_
  refine A_aload_n (pc := 4) X (j := 0) (i := 0) rfl rfl dX1_init_4 ?_
  refine A_iconst (pc := 5) X (v := 3) (by decide) dX1_init_5 ?_
  obtain ⟨g2, hq⟩ := gd hq
  refine A_putI (pc := 6) X g2 fp_1_7 rfl dX1_init_6 ?_
  refine A_ltH hq (fun h3 hq => ?_)
  refine A_aload_n (pc := 9) X (j := 0) (i := 0) rfl rfl dX1_init_9 ?_
  refine A_iconst (pc := 10) X (v := 1) (by decide) dX1_init_10 ?_
  obtain ⟨g4, hq⟩ := gd hq
  refine A_putI (pc := 11) X g4 fp_1_13 rfl dX1_init_11 ?_
  refine A_ltH hq (fun h5 hq => ?_)
  obtain ⟨g6, hq⟩ := gd hq
  obtain rfl := Option.some.inj hq
  exact A_vret (pc := 14) X g6 dX1_init_14
set_option maxRecDepth 100000 in
theorem mA_X1_init (x0 : Nat) (n : Nat) (h : Hp) (q : Ga) (hq : fA_X1_init x0 (n, n, 0, h) = some q) : ∀ l w, CTA l w yX1_init cX1_init 1 3 0 0 [.inr (.inr x0)] n h (q.1, q.2.2.2) :=
  CTA_of (L0 := [(0, .inr (.inr x0))]) (by decide) rfl (Nat.le_of_ble_eq_true rfl) (fun κ X => tfA_X1_init X x0 (n, n, 0, h) q hq)
set_option maxRecDepth 100000 in
theorem tfA_X7_init {κ : Kx} {x1 : Int32} (X : OKA κ cX7_init 2 "StruckWords$Row" "<init>" 3 1 (x1.toNatClampNeg)) (x0 : Nat) (h : Ga) (q : Ga) (hq : fA_X7_init x0 x1 h = some q) : JA κ 0 [(0, .inr (.inr x0)), (1, .inl x1)] [] h (q.1, q.2.2.2) := by
  delta fA_X7_init at hq
  refine A_aload_n (pc := 0) X (j := 0) (i := 0) rfl rfl dX7_init_0 ?_
  obtain ⟨g1, hq⟩ := gd hq
  refine A_objInit (pc := 1) X ml_7_3 (by decide) (Nat.le_of_ble_eq_true rfl) dX7_init_1 (of_decide_eq_true g1) ?_
  refine A_aload_n (pc := 4) X (j := 0) (i := 0) rfl rfl dX7_init_4 ?_
  refine A_iload_n (pc := 5) X (j := 1) (i := 1) rfl rfl dX7_init_5 ?_
  refine A_iconst (pc := 6) X (v := 0) (by decide) dX7_init_6 ?_
  obtain ⟨g2, hq⟩ := gd hq
  refine A_mmax (pc := 7) X ml_7_9 dX7_init_7 (by decide) (Nat.le_of_ble_eq_true rfl) g2 ?_
  obtain ⟨g3, hq⟩ := gd hq
  refine A_newI (pc := 10) X aK_0 g3 dX7_init_10 ?_
  refine A_ltR hq (fun r4 hq => ?_)
  refine A_ltH hq (fun h5 hq => ?_)
  obtain ⟨g6, hq⟩ := gd hq
  refine A_putF (pc := 12) X g6 fq_7_15 rfl rfl dX7_init_12 ?_
  refine A_ltH hq (fun h7 hq => ?_)
  obtain ⟨g8, hq⟩ := gd hq
  obtain rfl := Option.some.inj hq
  exact A_vret (pc := 15) X g8 dX7_init_15
set_option maxRecDepth 100000 in
theorem mA_X7_init (x0 : Nat) (x1 : Int32) (n : Nat) (h : Hp) (q : Ga) (hq : fA_X7_init x0 x1 (n, n, 0, h) = some q) : ∀ l w, CTA l w yX7_init cX7_init 2 3 1 (x1.toNatClampNeg) [.inr (.inr x0), .inl x1] n h (q.1, q.2.2.2) :=
  CTA_of (L0 := [(0, .inr (.inr x0)), (1, .inl x1)]) (by decide) rfl (Nat.le_of_ble_eq_true rfl) (fun κ X => tfA_X7_init X x0 (n, n, 0, h) q hq)
set_option maxRecDepth 100000 in
theorem mA_row (x0 : Nat) (x1 : Int32) (n : Nat) (h : Hp) (q : Ga) {k : Nat} (hk : x1.toNatClampNeg = k) (hq : fA_X7_init x0 x1 (n, n, 0, h) = some q) : ∀ l w, CTA l w yX7_init cX7_init 2 3 1 k [.inr (.inr x0), .inl x1] n h (q.1, q.2.2.2) := by
  subst hk
  exact mA_X7_init x0 x1 n h q hq
set_option maxRecDepth 100000 in
theorem tfA_X9_init {κ : Kx} (X : OKA κ cX9_init 1 "StruckWords$Tokens" "<init>" 3 0 0) (x0 : Nat) (h : Ga) (q : Ga) (hq : fA_X9_init x0 h = some q) : JA κ 0 [(0, .inr (.inr x0))] [] h (q.1, q.2.2.2) := by
  delta fA_X9_init at hq
  refine A_aload_n (pc := 0) X (j := 0) (i := 0) rfl rfl dX9_init_0 ?_
  obtain ⟨g1, hq⟩ := gd hq
  refine A_objInit (pc := 1) X ml_9_3 (by decide) (Nat.le_of_ble_eq_true rfl) dX9_init_1 (of_decide_eq_true g1) ?_
  obtain ⟨g2, hq⟩ := gd hq
  obtain rfl := Option.some.inj hq
  exact A_vret (pc := 4) X g2 dX9_init_4
set_option maxRecDepth 100000 in
theorem mA_X9_init (x0 : Nat) (n : Nat) (h : Hp) (q : Ga) (hq : fA_X9_init x0 (n, n, 0, h) = some q) : ∀ l w, CTA l w yX9_init cX9_init 1 3 0 0 [.inr (.inr x0)] n h (q.1, q.2.2.2) :=
  CTA_of (L0 := [(0, .inr (.inr x0))]) (by decide) rfl (Nat.le_of_ble_eq_true rfl) (fun κ X => tfA_X9_init X x0 (n, n, 0, h) q hq)
set_option maxRecDepth 100000 in
theorem tfA_X6_init {κ : Kx} (X : OKA κ cX6_init 1 "StruckWords$Reader" "<init>" 4 1 7) (x0 : Nat) (h : Ga) (q : Ga) (hq : fA_X6_init x0 h = some q) : JA κ 0 [(0, .inr (.inr x0))] [] h (q.1, q.2.2.2) := by
  delta fA_X6_init at hq
  refine A_aload_n (pc := 0) X (j := 0) (i := 0) rfl rfl dX6_init_0 ?_
  obtain ⟨g1, hq⟩ := gd hq
  refine A_objInit (pc := 1) X ml_6_3 (by decide) (Nat.le_of_ble_eq_true rfl) dX6_init_1 (of_decide_eq_true g1) ?_
  refine A_aload_n (pc := 4) X (j := 0) (i := 0) rfl rfl dX6_init_4 ?_
  obtain ⟨g2, hq⟩ := gd hq
  refine A_new (pc := 5) X (ty := tyX9) (show vwCl[7]? = some ("StruckWords$Tokens", TX9, 7) from rfl) iX9 tyX9_ok cK_6_9 in_c9 ii_c9 df_c9 (by decide) g2 dX6_init_5 ?_
  refine A_ltR hq (fun r3 hq => ?_)
  refine A_ltH hq (fun h4 hq => ?_)
  refine A_dup (pc := 8) X rfl dX6_init_8 ?_
  obtain ⟨g9, hq⟩ := gd hq
  obtain ⟨g6, q7, hc, e8, hq⟩ := bna_e hq
  refine A_callIN (pc := 9) (as := []) (st := [.inr (.inr r3), .inr (.inr x0)]) (c1 := 0) (s1 := 0) (ky := 3) X dX6_init_9 ca_X9_init ci_X9_init rfl (by decide) (by decide) (mA_X9_init _ _ _ _ hc) (of_decide_eq_true g9) rfl rfl (Nat.le_of_ble_eq_true rfl) g6 e8 ?_
  revert hq
  generalize hgh5 : ((q7.1, h4.2.1, h4.2.2.1 + 0, q7.2.2.2) : Ga) = h5
  intro hq
  obtain ⟨g10, hq⟩ := gd hq
  refine A_putF (pc := 12) X g10 fq_6_12 rfl rfl dX6_init_12 ?_
  refine A_ltH hq (fun h11 hq => ?_)
  obtain ⟨g12, hq⟩ := gd hq
  obtain rfl := Option.some.inj hq
  exact A_vret (pc := 15) X g12 dX6_init_15
set_option maxRecDepth 100000 in
theorem mA_X6_init (x0 : Nat) (n : Nat) (h : Hp) (q : Ga) (hq : fA_X6_init x0 (n, n, 0, h) = some q) : ∀ l w, CTA l w yX6_init cX6_init 1 4 1 7 [.inr (.inr x0)] n h (q.1, q.2.2.2) :=
  CTA_of (L0 := [(0, .inr (.inr x0))]) (by decide) rfl (Nat.le_of_ble_eq_true rfl) (fun κ X => tfA_X6_init X x0 (n, n, 0, h) q hq)
set_option maxRecDepth 100000 in
theorem tFA_X10_clear_60 {κ : Kx} (X : OKA κ cX10_clear 2 "StruckWords$Tongue" "clear" 3 0 0) (x0 : Nat) (k85 : Ga → Option Ga) (self : Int32 → Ga → Option Ga) (x1 : Int32) (h : Ga) (q : Ga) (hk85 : ∀ (h : Ga) (q : Ga), k85 h = some q → JA κ 85 [] [] h (q.1, q.2.2.2)) (hself : ∀ (x1 : Int32) (h : Ga) (q : Ga), self x1 h = some q → JA κ 60 [(0, .inr (.inr x0)), (1, .inl x1)] [] h (q.1, q.2.2.2)) (hq : FA_X10_clear_60 x0 k85 self x1 h = some q) : JA κ 60 [(0, .inr (.inr x0)), (1, .inl x1)] [] h (q.1, q.2.2.2) := by
  delta FA_X10_clear_60 at hq
  refine A_iload_n (pc := 60) X (j := 1) (i := 1) rfl rfl dX10_clear_60 ?_
  refine A_aload_n (pc := 61) X (j := 0) (i := 0) rfl rfl dX10_clear_61 ?_
  obtain ⟨g36, hq⟩ := gd hq
  refine A_getR (pc := 62) X (z := 0) g36 fl_10_41 rfl dX10_clear_62 ?_
  refine A_ltR hq (fun r37 hq => ?_)
  obtain ⟨g38, hq⟩ := gd hq
  refine A_alen (pc := 65) X g38 (by decide) dX10_clear_65 ?_
  refine A_icmp_ge (pc := 66) (tgt := 85) X dX10_clear_66 rfl (fun c39 => ?_) (fun c39 => ?_)
  · have hq := ite_t hq c39
    refine A_sub [] rfl ?_
    exact hk85 _ _ hq
  · have hq := ite_f hq c39
    refine A_aload_n (pc := 69) X (j := 0) (i := 0) rfl rfl dX10_clear_69 ?_
    obtain ⟨g40, hq⟩ := gd hq
    refine A_getR (pc := 70) X (z := 0) g40 fl_10_41 rfl dX10_clear_70 ?_
    refine A_ltR hq (fun r41 hq => ?_)
    refine A_iload_n (pc := 73) X (j := 1) (i := 1) rfl rfl dX10_clear_73 ?_
    refine A_iload_n (pc := 74) X (j := 1) (i := 1) rfl rfl dX10_clear_74 ?_
    refine A_bipush (pc := 75) X (v := 8) (by decide) dX10_clear_75 ?_
    refine A_irem (pc := 77) X (by decide) dX10_clear_77 ?_
    obtain ⟨g42, hq⟩ := gd hq
    refine A_iastore (pc := 78) X g42 dX10_clear_78 ?_
    refine A_ltH hq (fun h43 hq => ?_)
    refine A_iinc (pc := 79) X (j := 1) (v := 1) (L' := [(1, .inl (x1 + 1)), (0, .inr (.inr x0))]) rfl (by decide) (by decide) rfl dX10_clear_79 ?_
    refine A_goto (pc := 82) X (tgt := 60) dX10_clear_82 rfl ?_
    refine A_sub [1, 0] rfl ?_
    exact hself _ _ _ hq
set_option maxRecDepth 100000 in
theorem tLA_X10_clear_60 {κ : Kx} (X : OKA κ cX10_clear 2 "StruckWords$Tongue" "clear" 3 0 0) (x0 : Nat) (k85 : Ga → Option Ga) (N : Nat) (x1 : Int32) (h : Ga) (q : Ga) (hk85 : ∀ (h : Ga) (q : Ga), k85 h = some q → JA κ 85 [] [] h (q.1, q.2.2.2)) (hq : itr2 (FA_X10_clear_60 x0 k85) N x1 h = some q) : JA κ 60 [(0, .inr (.inr x0)), (1, .inl x1)] [] h (q.1, q.2.2.2) :=
  itr2_ind (fun self hs x1 h q hq => tFA_X10_clear_60 X x0 k85 self x1 h q hk85 hs hq) N x1 h q hq
set_option maxRecDepth 100000 in
theorem tfA_X10_clear {κ : Kx} (X : OKA κ cX10_clear 2 "StruckWords$Tongue" "clear" 3 0 0) (x0 : Nat) (h : Ga) (q : Ga) (hq : fA_X10_clear x0 h = some q) : JA κ 0 [(0, .inr (.inr x0))] [] h (q.1, q.2.2.2) := by
  delta fA_X10_clear at hq
  refine A_aload_n (pc := 0) X (j := 0) (i := 0) rfl rfl dX10_clear_0 ?_
  refine A_iconst (pc := 1) X (v := 0) (by decide) dX10_clear_1 ?_
  obtain ⟨g1, hq⟩ := gd hq
  refine A_putI (pc := 2) X g1 fp_10_50 rfl dX10_clear_2 ?_
  refine A_ltH hq (fun h2 hq => ?_)
  refine A_aload_n (pc := 5) X (j := 0) (i := 0) rfl rfl dX10_clear_5 ?_
  refine A_iconst (pc := 6) X (v := 0) (by decide) dX10_clear_6 ?_
  obtain ⟨g3, hq⟩ := gd hq
  refine A_putI (pc := 7) X g3 fp_10_54 rfl dX10_clear_7 ?_
  refine A_ltH hq (fun h4 hq => ?_)
  refine A_aload_n (pc := 10) X (j := 0) (i := 0) rfl rfl dX10_clear_10 ?_
  refine A_iconst (pc := 11) X (v := 0) (by decide) dX10_clear_11 ?_
  obtain ⟨g5, hq⟩ := gd hq
  refine A_putI (pc := 12) X g5 fp_10_57 rfl dX10_clear_12 ?_
  refine A_ltH hq (fun h6 hq => ?_)
  refine A_aload_n (pc := 15) X (j := 0) (i := 0) rfl rfl dX10_clear_15 ?_
  obtain ⟨g7, hq⟩ := gd hq
  refine A_getR (pc := 16) X (z := 0) g7 fl_10_18 rfl dX10_clear_16 ?_
  refine A_ltR hq (fun r8 hq => ?_)
  refine A_iconst (pc := 19) X (v := 3) (by decide) dX10_clear_19 ?_
  refine A_iconst (pc := 20) X (v := 1) (by decide) dX10_clear_20 ?_
  obtain ⟨g13, hq⟩ := gd hq
  obtain ⟨g10, q11, hc, e12, hq⟩ := bna_e hq
  refine A_callV (pc := 21) (as := [.inl 3, .inl 1]) (st := []) (c1 := 0) (s1 := 0) (ky := 2) X dX10_clear_21 ca_X1_tell ci_X1_tell cs_X1_tell ml_10_60 (by decide) g13 rfl rfl (mA_X1_tell _ _ _ _ _ _ hc) rfl rfl (Nat.le_of_ble_eq_true rfl) g10 e12 ?_
  revert hq
  generalize hgh9 : ((q11.1, h6.2.1, h6.2.2.1 + 0, q11.2.2.2) : Ga) = h9
  intro hq
  refine A_aload_n (pc := 24) X (j := 0) (i := 0) rfl rfl dX10_clear_24 ?_
  obtain ⟨g14, hq⟩ := gd hq
  refine A_getR (pc := 25) X (z := 0) g14 fl_10_22 rfl dX10_clear_25 ?_
  refine A_ltR hq (fun r15 hq => ?_)
  refine A_iconst (pc := 28) X (v := 1) (by decide) dX10_clear_28 ?_
  obtain ⟨g17, q18, hc, e19, hq⟩ := bna_e hq
  refine A_callS (pc := 29) (as := [.inr (.inr r15), .inl 1]) (st := []) (c1 := 0) (s1 := 0) (ky := 2) X dX10_clear_29 ca_J7_fill_53178 cz_J7_fill_53178 ml_10_64 (by decide) (mA_J7_fill_53178 _ _ _ _ _ hc) rfl rfl (Nat.le_of_ble_eq_true rfl) g17 e19 ?_
  revert hq
  generalize hgh16 : ((q18.1, h9.2.1, h9.2.2.1 + 0, q18.2.2.2) : Ga) = h16
  intro hq
  refine A_aload_n (pc := 32) X (j := 0) (i := 0) rfl rfl dX10_clear_32 ?_
  obtain ⟨g20, hq⟩ := gd hq
  refine A_getR (pc := 33) X (z := 0) g20 fl_10_25 rfl dX10_clear_33 ?_
  refine A_ltR hq (fun r21 hq => ?_)
  refine A_lconst (pc := 36) X (v := 0) (by decide) dX10_clear_36 ?_
  obtain ⟨g23, q24, hc, e25, hq⟩ := bna_e hq
  refine A_callS (pc := 37) (as := [.inr (.inr r21), .inr (.inl 0)]) (st := []) (c1 := 0) (s1 := 0) (ky := 2) X dX10_clear_37 ca_J7_fill_d0a16 cz_J7_fill_d0a16 ml_10_70 (by decide) (mA_J7_fill_d0a16 _ _ _ _ _ hc) rfl rfl (Nat.le_of_ble_eq_true rfl) g23 e25 ?_
  revert hq
  generalize hgh22 : ((q24.1, h16.2.1, h16.2.2.1 + 0, q24.2.2.2) : Ga) = h22
  intro hq
  refine A_aload_n (pc := 40) X (j := 0) (i := 0) rfl rfl dX10_clear_40 ?_
  refine A_lconst (pc := 41) X (v := 0) (by decide) dX10_clear_41 ?_
  obtain ⟨g26, hq⟩ := gd hq
  refine A_putL (pc := 42) X g26 fp_10_73 rfl dX10_clear_42 ?_
  refine A_ltH hq (fun h27 hq => ?_)
  refine A_aload_n (pc := 45) X (j := 0) (i := 0) rfl rfl dX10_clear_45 ?_
  refine A_iconst (pc := 46) X (v := 0) (by decide) dX10_clear_46 ?_
  obtain ⟨g28, hq⟩ := gd hq
  refine A_putI (pc := 47) X g28 fp_10_77 rfl dX10_clear_47 ?_
  refine A_ltH hq (fun h29 hq => ?_)
  refine A_aload_n (pc := 50) X (j := 0) (i := 0) rfl rfl dX10_clear_50 ?_
  obtain ⟨g30, hq⟩ := gd hq
  refine A_getR (pc := 51) X (z := 0) g30 fl_10_38 rfl dX10_clear_51 ?_
  refine A_ltR hq (fun r31 hq => ?_)
  refine A_iconst (pc := 54) X (v := 0) (by decide) dX10_clear_54 ?_
  obtain ⟨g33, q34, hc, e35, hq⟩ := bna_e hq
  refine A_callS (pc := 55) (as := [.inr (.inr r31), .inl 0]) (st := []) (c1 := 0) (s1 := 0) (ky := 2) X dX10_clear_55 ca_J7_fill_53178 cz_J7_fill_53178 ml_10_64 (by decide) (mA_J7_fill_53178 _ _ _ _ _ hc) rfl rfl (Nat.le_of_ble_eq_true rfl) g33 e35 ?_
  revert hq
  generalize hgh32 : ((q34.1, h29.2.1, h29.2.2.1 + 0, q34.2.2.2) : Ga) = h32
  intro hq
  refine A_iconst (pc := 58) X (v := 0) (by decide) dX10_clear_58 ?_
  refine A_istore_n (pc := 59) X (L' := [(1, .inl 0), (0, .inr (.inr x0))]) (i := 1) rfl (by decide) rfl dX10_clear_59 ?_
  refine A_sub [1, 0] rfl ?_
  refine tLA_X10_clear_60 X _ _ N0 _ _ _ ?_ hq
  · intro h44 q hq
    obtain ⟨g45, hq⟩ := gd hq
    obtain rfl := Option.some.inj hq
    exact A_vret (pc := 85) X g45 dX10_clear_85
set_option maxRecDepth 100000 in
theorem mA_X10_clear (x0 : Nat) (n : Nat) (h : Hp) (q : Ga) (hq : fA_X10_clear x0 (n, n, 0, h) = some q) : ∀ l w, CTA l w yX10_clear cX10_clear 2 3 0 0 [.inr (.inr x0)] n h (q.1, q.2.2.2) :=
  CTA_of (L0 := [(0, .inr (.inr x0))]) (by decide) rfl (Nat.le_of_ble_eq_true rfl) (fun κ X => tfA_X10_clear X x0 (n, n, 0, h) q hq)
set_option maxRecDepth 100000 in
theorem tfA_X10_init {κ : Kx} (X : OKA κ cX10_init 1 "StruckWords$Tongue" "<init>" 4 10 1661) (x0 : Nat) (h : Ga) (q : Ga) (hq : fA_X10_init x0 h = some q) : JA κ 0 [(0, .inr (.inr x0))] [] h (q.1, q.2.2.2) := by
  delta fA_X10_init at hq
  refine A_aload_n (pc := 0) X (j := 0) (i := 0) rfl rfl dX10_init_0 ?_
  obtain ⟨g1, hq⟩ := gd hq
  refine A_objInit (pc := 1) X ml_10_5 (by decide) (Nat.le_of_ble_eq_true rfl) dX10_init_1 (of_decide_eq_true g1) ?_
  refine A_aload_n (pc := 4) X (j := 0) (i := 0) rfl rfl dX10_init_4 ?_
  refine A_bipush (pc := 5) X (v := 16) (by decide) dX10_init_5 ?_
  obtain ⟨g2, hq⟩ := gd hq
  refine A_newI (pc := 7) X aK_0 g2 dX10_init_7 ?_
  refine A_ltR hq (fun r3 hq => ?_)
  refine A_ltH hq (fun h4 hq => ?_)
  obtain ⟨g5, hq⟩ := gd hq
  refine A_putF (pc := 9) X g5 fq_10_11 rfl rfl dX10_init_9 ?_
  refine A_ltH hq (fun h6 hq => ?_)
  refine A_aload_n (pc := 12) X (j := 0) (i := 0) rfl rfl dX10_init_12 ?_
  obtain ⟨g7, hq⟩ := gd hq
  refine A_new (pc := 13) X (ty := tyX1) (show vwCl[0]? = some ("StruckWords$Edict", TX1, 2) from rfl) iX1 tyX1_ok cK_10_15 in_c1 ii_c1 df_c1 (by decide) g7 dX10_init_13 ?_
  refine A_ltR hq (fun r8 hq => ?_)
  refine A_ltH hq (fun h9 hq => ?_)
  refine A_dup (pc := 16) X rfl dX10_init_16 ?_
  obtain ⟨g14, hq⟩ := gd hq
  obtain ⟨g11, q12, hc, e13, hq⟩ := bna_e hq
  refine A_callIN (pc := 17) (as := []) (st := [.inr (.inr r8), .inr (.inr x0)]) (c1 := 0) (s1 := 0) (ky := 3) X dX10_init_17 ca_X1_init ci_X1_init rfl (by decide) (by decide) (mA_X1_init _ _ _ _ hc) (of_decide_eq_true g14) rfl rfl (Nat.le_of_ble_eq_true rfl) g11 e13 ?_
  revert hq
  generalize hgh10 : ((q12.1, h9.2.1, h9.2.2.1 + 0, q12.2.2.2) : Ga) = h10
  intro hq
  obtain ⟨g15, hq⟩ := gd hq
  refine A_putF (pc := 20) X g15 fq_10_18 rfl rfl dX10_init_20 ?_
  refine A_ltH hq (fun h16 hq => ?_)
  refine A_aload_n (pc := 23) X (j := 0) (i := 0) rfl rfl dX10_init_23 ?_
  refine A_bipush (pc := 24) X (v := 6) (by decide) dX10_init_24 ?_
  obtain ⟨g17, hq⟩ := gd hq
  refine A_newI (pc := 26) X aK_0 g17 dX10_init_26 ?_
  refine A_ltR hq (fun r18 hq => ?_)
  refine A_ltH hq (fun h19 hq => ?_)
  obtain ⟨g20, hq⟩ := gd hq
  refine A_putF (pc := 28) X g20 fq_10_22 rfl rfl dX10_init_28 ?_
  refine A_ltH hq (fun h21 hq => ?_)
  refine A_aload_n (pc := 31) X (j := 0) (i := 0) rfl rfl dX10_init_31 ?_
  refine A_iconst (pc := 32) X (v := 5) (by decide) dX10_init_32 ?_
  obtain ⟨g22, hq⟩ := gd hq
  refine A_newL (pc := 33) X aK_1 g22 dX10_init_33 ?_
  refine A_ltR hq (fun r23 hq => ?_)
  refine A_ltH hq (fun h24 hq => ?_)
  obtain ⟨g25, hq⟩ := gd hq
  refine A_putF (pc := 35) X g25 fq_10_25 rfl rfl dX10_init_35 ?_
  refine A_ltH hq (fun h26 hq => ?_)
  refine A_aload_n (pc := 38) X (j := 0) (i := 0) rfl rfl dX10_init_38 ?_
  refine A_bipush (pc := 39) X (v := 8) (by decide) dX10_init_39 ?_
  obtain ⟨g27, hq⟩ := gd hq
  refine A_newI (pc := 41) X aK_0 g27 dX10_init_41 ?_
  refine A_ltR hq (fun r28 hq => ?_)
  refine A_ltH hq (fun h29 hq => ?_)
  obtain ⟨g30, hq⟩ := gd hq
  refine A_putF (pc := 43) X g30 fq_10_29 rfl rfl dX10_init_43 ?_
  refine A_ltH hq (fun h31 hq => ?_)
  refine A_aload_n (pc := 46) X (j := 0) (i := 0) rfl rfl dX10_init_46 ?_
  refine A_bipush (pc := 47) X (v := 8) (by decide) dX10_init_47 ?_
  obtain ⟨g32, hq⟩ := gd hq
  refine A_newI (pc := 49) X aK_0 g32 dX10_init_49 ?_
  refine A_ltR hq (fun r33 hq => ?_)
  refine A_ltH hq (fun h34 hq => ?_)
  obtain ⟨g35, hq⟩ := gd hq
  refine A_putF (pc := 51) X g35 fq_10_32 rfl rfl dX10_init_51 ?_
  refine A_ltH hq (fun h36 hq => ?_)
  refine A_aload_n (pc := 54) X (j := 0) (i := 0) rfl rfl dX10_init_54 ?_
  refine A_bipush (pc := 55) X (v := 8) (by decide) dX10_init_55 ?_
  obtain ⟨g37, hq⟩ := gd hq
  refine A_newI (pc := 57) X aK_0 g37 dX10_init_57 ?_
  refine A_ltR hq (fun r38 hq => ?_)
  refine A_ltH hq (fun h39 hq => ?_)
  obtain ⟨g40, hq⟩ := gd hq
  refine A_putF (pc := 59) X g40 fq_10_35 rfl rfl dX10_init_59 ?_
  refine A_ltH hq (fun h41 hq => ?_)
  refine A_aload_n (pc := 62) X (j := 0) (i := 0) rfl rfl dX10_init_62 ?_
  refine A_bipush (pc := 63) X (v := 8) (by decide) dX10_init_63 ?_
  obtain ⟨g42, hq⟩ := gd hq
  refine A_newI (pc := 65) X aK_0 g42 dX10_init_65 ?_
  refine A_ltR hq (fun r43 hq => ?_)
  refine A_ltH hq (fun h44 hq => ?_)
  obtain ⟨g45, hq⟩ := gd hq
  refine A_putF (pc := 67) X g45 fq_10_38 rfl rfl dX10_init_67 ?_
  refine A_ltH hq (fun h46 hq => ?_)
  refine A_aload_n (pc := 70) X (j := 0) (i := 0) rfl rfl dX10_init_70 ?_
  refine A_sipush (pc := 71) X (v := 320) (by decide) dX10_init_71 ?_
  obtain ⟨g47, hq⟩ := gd hq
  refine A_newI (pc := 74) X aK_0 g47 dX10_init_74 ?_
  refine A_ltR hq (fun r48 hq => ?_)
  refine A_ltH hq (fun h49 hq => ?_)
  obtain ⟨g50, hq⟩ := gd hq
  refine A_putF (pc := 76) X g50 fq_10_41 rfl rfl dX10_init_76 ?_
  refine A_ltH hq (fun h51 hq => ?_)
  refine A_aload_n (pc := 79) X (j := 0) (i := 0) rfl rfl dX10_init_79 ?_
  refine A_sipush (pc := 80) X (v := 1280) (by decide) dX10_init_80 ?_
  obtain ⟨g52, hq⟩ := gd hq
  refine A_newI (pc := 83) X aK_0 g52 dX10_init_83 ?_
  refine A_ltR hq (fun r53 hq => ?_)
  refine A_ltH hq (fun h54 hq => ?_)
  obtain ⟨g55, hq⟩ := gd hq
  refine A_putF (pc := 85) X g55 fq_10_44 rfl rfl dX10_init_85 ?_
  refine A_ltH hq (fun h56 hq => ?_)
  refine A_aload_n (pc := 88) X (j := 0) (i := 0) rfl rfl dX10_init_88 ?_
  obtain ⟨g61, hq⟩ := gd hq
  obtain ⟨g58, q59, hc, e60, hq⟩ := bna_e hq
  refine A_callV (pc := 89) (as := []) (st := []) (c1 := 0) (s1 := 0) (ky := 3) X dX10_init_89 ca_X10_clear ci_X10_clear cs_X10_clear ml_10_47 (by decide) g61 rfl rfl (mA_X10_clear _ _ _ _ hc) rfl rfl (Nat.le_of_ble_eq_true rfl) g58 e60 ?_
  revert hq
  generalize hgh57 : ((q59.1, h56.2.1, h56.2.2.1 + 0, q59.2.2.2) : Ga) = h57
  intro hq
  obtain ⟨g62, hq⟩ := gd hq
  obtain rfl := Option.some.inj hq
  exact A_vret (pc := 92) X g62 dX10_init_92
set_option maxRecDepth 100000 in
theorem mA_X10_init (x0 : Nat) (n : Nat) (h : Hp) (q : Ga) (hq : fA_X10_init x0 (n, n, 0, h) = some q) : ∀ l w, CTA l w yX10_init cX10_init 1 4 10 1661 [.inr (.inr x0)] n h (q.1, q.2.2.2) :=
  CTA_of (L0 := [(0, .inr (.inr x0))]) (by decide) rfl (Nat.le_of_ble_eq_true rfl) (fun κ X => tfA_X10_init X x0 (n, n, 0, h) q hq)
set_option maxRecDepth 100000 in
theorem tFA_X5_init_39 {κ : Kx} (X : OKA κ cX5_init 2 "StruckWords$Matter" "<init>" 5 34 1972) (x0 : Nat) (k66 : Ga → Option Ga) (self : Int32 → Ga → Option Ga) (x1 : Int32) (h : Ga) (q : Ga) (hk66 : ∀ (h : Ga) (q : Ga), k66 h = some q → JA κ 66 [] [] h (q.1, q.2.2.2)) (hself : ∀ (x1 : Int32) (h : Ga) (q : Ga), self x1 h = some q → JA κ 39 [(0, .inr (.inr x0)), (1, .inl x1)] [] h (q.1, q.2.2.2)) (hq : FA_X5_init_39 x0 k66 self x1 h = some q) : JA κ 39 [(0, .inr (.inr x0)), (1, .inl x1)] [] h (q.1, q.2.2.2) := by
  delta FA_X5_init_39 at hq
  refine A_iload_n (pc := 39) X (j := 1) (i := 1) rfl rfl dX5_init_39 ?_
  refine A_bipush (pc := 40) X (v := 10) (by decide) dX5_init_40 ?_
  refine A_icmp_ge (pc := 42) (tgt := 66) X dX5_init_42 rfl (fun c27 => ?_) (fun c27 => ?_)
  · have hq := ite_t hq c27
    refine A_sub [] rfl ?_
    exact hk66 _ _ hq
  · have hq := ite_f hq c27
    refine A_aload_n (pc := 45) X (j := 0) (i := 0) rfl rfl dX5_init_45 ?_
    obtain ⟨g28, hq⟩ := gd hq
    refine A_getR (pc := 46) X (z := 0) g28 fl_5_27 rfl dX5_init_46 ?_
    refine A_ltR hq (fun r29 hq => ?_)
    refine A_iload_n (pc := 49) X (j := 1) (i := 1) rfl rfl dX5_init_49 ?_
    obtain ⟨g30, hq⟩ := gd hq
    refine A_new (pc := 50) X (ty := tyX7) (show vwCl[5]? = some ("StruckWords$Row", TX7, 2) from rfl) iX7 tyX7_ok cK_5_18 in_c7 ii_c7 df_c7 (by decide) g30 dX5_init_50 ?_
    refine A_ltR hq (fun r31 hq => ?_)
    refine A_ltH hq (fun h32 hq => ?_)
    refine A_dup (pc := 53) X rfl dX5_init_53 ?_
    refine A_bipush (pc := 54) X (v := 24) (by decide) dX5_init_54 ?_
    obtain ⟨g37, hq⟩ := gd hq
    obtain ⟨g34, q35, hc, e36, hq⟩ := bna_e hq
    refine A_callI (pc := 56) (as := [.inl 24]) (st := [.inr (.inr r31), .inl x1, .inr (.inr r29)]) (c1 := 1) (s1 := 24) (ky := 3) X dX5_init_56 ca_X7_init ci_X7_init rfl ml_5_20 (by decide) (mA_row _ _ _ _ _ (by decide) hc) (of_decide_eq_true g37) rfl rfl (Nat.le_of_ble_eq_true rfl) g34 e36 ?_
    revert hq
    generalize hgh33 : ((q35.1, h32.2.1, h32.2.2.1 + 24, q35.2.2.2) : Ga) = h33
    intro hq
    obtain ⟨g38, hq⟩ := gd hq
    obtain ⟨g39, hq⟩ := gd hq
    refine A_aastoreR (pc := 59) X g38 g39 dX5_init_59 ?_
    refine A_ltH hq (fun h40 hq => ?_)
    refine A_iinc (pc := 60) X (j := 1) (v := 1) (L' := [(1, .inl (x1 + 1)), (0, .inr (.inr x0))]) rfl (by decide) (by decide) rfl dX5_init_60 ?_
    refine A_goto (pc := 63) X (tgt := 39) dX5_init_63 rfl ?_
    refine A_sub [1, 0] rfl ?_
    exact hself _ _ _ hq
set_option maxRecDepth 100000 in
theorem tLA_X5_init_39 {κ : Kx} (X : OKA κ cX5_init 2 "StruckWords$Matter" "<init>" 5 34 1972) (x0 : Nat) (k66 : Ga → Option Ga) (N : Nat) (x1 : Int32) (h : Ga) (q : Ga) (hk66 : ∀ (h : Ga) (q : Ga), k66 h = some q → JA κ 66 [] [] h (q.1, q.2.2.2)) (hq : itr2 (FA_X5_init_39 x0 k66) N x1 h = some q) : JA κ 39 [(0, .inr (.inr x0)), (1, .inl x1)] [] h (q.1, q.2.2.2) :=
  itr2_ind (fun self hs x1 h q hq => tFA_X5_init_39 X x0 k66 self x1 h q hk66 hs hq) N x1 h q hq
set_option maxRecDepth 100000 in
theorem tfA_X5_init {κ : Kx} (X : OKA κ cX5_init 2 "StruckWords$Matter" "<init>" 5 34 1972) (x0 : Nat) (h : Ga) (q : Ga) (hq : fA_X5_init x0 h = some q) : JA κ 0 [(0, .inr (.inr x0))] [] h (q.1, q.2.2.2) := by
  delta fA_X5_init at hq
  refine A_aload_n (pc := 0) X (j := 0) (i := 0) rfl rfl dX5_init_0 ?_
  obtain ⟨g1, hq⟩ := gd hq
  refine A_objInit (pc := 1) X ml_5_3 (by decide) (Nat.le_of_ble_eq_true rfl) dX5_init_1 (of_decide_eq_true g1) ?_
  refine A_aload_n (pc := 4) X (j := 0) (i := 0) rfl rfl dX5_init_4 ?_
  obtain ⟨g2, hq⟩ := gd hq
  refine A_new (pc := 5) X (ty := tyX10) (show vwCl[8]? = some ("StruckWords$Tongue", TX10, 15) from rfl) iX10 tyX10_ok cK_5_9 in_c10 ii_c10 df_c10 (by decide) g2 dX5_init_5 ?_
  refine A_ltR hq (fun r3 hq => ?_)
  refine A_ltH hq (fun h4 hq => ?_)
  refine A_dup (pc := 8) X rfl dX5_init_8 ?_
  obtain ⟨g9, hq⟩ := gd hq
  obtain ⟨g6, q7, hc, e8, hq⟩ := bna_e hq
  refine A_callI (pc := 9) (as := []) (st := [.inr (.inr r3), .inr (.inr x0)]) (c1 := 10) (s1 := 1661) (ky := 4) X dX5_init_9 ca_X10_init ci_X10_init rfl ml_5_11 (by decide) (mA_X10_init _ _ _ _ hc) (of_decide_eq_true g9) rfl rfl (Nat.le_of_ble_eq_true rfl) g6 e8 ?_
  revert hq
  generalize hgh5 : ((q7.1, h4.2.1, h4.2.2.1 + 1661, q7.2.2.2) : Ga) = h5
  intro hq
  obtain ⟨g10, hq⟩ := gd hq
  refine A_putF (pc := 12) X g10 fq_5_12 rfl rfl dX5_init_12 ?_
  refine A_ltH hq (fun h11 hq => ?_)
  refine A_aload_n (pc := 15) X (j := 0) (i := 0) rfl rfl dX5_init_15 ?_
  obtain ⟨g12, hq⟩ := gd hq
  refine A_new (pc := 16) X (ty := tyX7) (show vwCl[5]? = some ("StruckWords$Row", TX7, 2) from rfl) iX7 tyX7_ok cK_5_18 in_c7 ii_c7 df_c7 (by decide) g12 dX5_init_16 ?_
  refine A_ltR hq (fun r13 hq => ?_)
  refine A_ltH hq (fun h14 hq => ?_)
  refine A_dup (pc := 19) X rfl dX5_init_19 ?_
  refine A_bipush (pc := 20) X (v := 24) (by decide) dX5_init_20 ?_
  obtain ⟨g19, hq⟩ := gd hq
  obtain ⟨g16, q17, hc, e18, hq⟩ := bna_e hq
  refine A_callI (pc := 22) (as := [.inl 24]) (st := [.inr (.inr r13), .inr (.inr x0)]) (c1 := 1) (s1 := 24) (ky := 3) X dX5_init_22 ca_X7_init ci_X7_init rfl ml_5_20 (by decide) (mA_row _ _ _ _ _ (by decide) hc) (of_decide_eq_true g19) rfl rfl (Nat.le_of_ble_eq_true rfl) g16 e18 ?_
  revert hq
  generalize hgh15 : ((q17.1, h14.2.1, h14.2.2.1 + 24, q17.2.2.2) : Ga) = h15
  intro hq
  obtain ⟨g20, hq⟩ := gd hq
  refine A_putF (pc := 25) X g20 fq_5_23 rfl rfl dX5_init_25 ?_
  refine A_ltH hq (fun h21 hq => ?_)
  refine A_aload_n (pc := 28) X (j := 0) (i := 0) rfl rfl dX5_init_28 ?_
  refine A_bipush (pc := 29) X (v := 10) (by decide) dX5_init_29 ?_
  obtain ⟨g22, hq⟩ := gd hq
  refine A_anewR (pc := 31) X cK_5_18 g22 dX5_init_31 ?_
  refine A_ltR hq (fun r23 hq => ?_)
  refine A_ltH hq (fun h24 hq => ?_)
  obtain ⟨g25, hq⟩ := gd hq
  refine A_putF (pc := 34) X g25 fq_5_27 rfl rfl dX5_init_34 ?_
  refine A_ltH hq (fun h26 hq => ?_)
  refine A_iconst (pc := 37) X (v := 0) (by decide) dX5_init_37 ?_
  refine A_istore_n (pc := 38) X (L' := [(1, .inl 0), (0, .inr (.inr x0))]) (i := 1) rfl (by decide) rfl dX5_init_38 ?_
  refine A_sub [1, 0] rfl ?_
  refine tLA_X5_init_39 X _ _ N0 _ _ _ ?_ hq
  · intro h41 q hq
    obtain ⟨g42, hq⟩ := gd hq
    obtain rfl := Option.some.inj hq
    exact A_vret (pc := 66) X g42 dX5_init_66
set_option maxRecDepth 100000 in
theorem mA_X5_init (x0 : Nat) (n : Nat) (h : Hp) (q : Ga) (hq : fA_X5_init x0 (n, n, 0, h) = some q) : ∀ l w, CTA l w yX5_init cX5_init 2 5 34 1972 [.inr (.inr x0)] n h (q.1, q.2.2.2) :=
  CTA_of (L0 := [(0, .inr (.inr x0))]) (by decide) rfl (Nat.le_of_ble_eq_true rfl) (fun κ X => tfA_X5_init X x0 (n, n, 0, h) q hq)
set_option maxRecDepth 100000 in
theorem tfA_X3_init {κ : Kx} (X : OKA κ cX3_init 1 "StruckWords$Judge" "<init>" 4 8 375) (x0 : Nat) (h : Ga) (q : Ga) (hq : fA_X3_init x0 h = some q) : JA κ 0 [(0, .inr (.inr x0))] [] h (q.1, q.2.2.2) := by
  delta fA_X3_init at hq
  refine A_aload_n (pc := 0) X (j := 0) (i := 0) rfl rfl dX3_init_0 ?_
  obtain ⟨g1, hq⟩ := gd hq
  refine A_objInit (pc := 1) X ml_3_3 (by decide) (Nat.le_of_ble_eq_true rfl) dX3_init_1 (of_decide_eq_true g1) ?_
  refine A_aload_n (pc := 4) X (j := 0) (i := 0) rfl rfl dX3_init_4 ?_
  obtain ⟨g2, hq⟩ := gd hq
  refine A_new (pc := 5) X (ty := tyX7) (show vwCl[5]? = some ("StruckWords$Row", TX7, 2) from rfl) iX7 tyX7_ok cK_3_9 in_c7 ii_c7 df_c7 (by decide) g2 dX3_init_5 ?_
  refine A_ltR hq (fun r3 hq => ?_)
  refine A_ltH hq (fun h4 hq => ?_)
  refine A_dup (pc := 8) X rfl dX3_init_8 ?_
  refine A_bipush (pc := 9) X (v := 24) (by decide) dX3_init_9 ?_
  obtain ⟨g9, hq⟩ := gd hq
  obtain ⟨g6, q7, hc, e8, hq⟩ := bna_e hq
  refine A_callI (pc := 11) (as := [.inl 24]) (st := [.inr (.inr r3), .inr (.inr x0)]) (c1 := 1) (s1 := 24) (ky := 3) X dX3_init_11 ca_X7_init ci_X7_init rfl ml_3_11 (by decide) (mA_row _ _ _ _ _ (by decide) hc) (of_decide_eq_true g9) rfl rfl (Nat.le_of_ble_eq_true rfl) g6 e8 ?_
  revert hq
  generalize hgh5 : ((q7.1, h4.2.1, h4.2.2.1 + 24, q7.2.2.2) : Ga) = h5
  intro hq
  obtain ⟨g10, hq⟩ := gd hq
  refine A_putF (pc := 14) X g10 fq_3_14 rfl rfl dX3_init_14 ?_
  refine A_ltH hq (fun h11 hq => ?_)
  refine A_aload_n (pc := 17) X (j := 0) (i := 0) rfl rfl dX3_init_17 ?_
  refine A_bipush (pc := 18) X (v := 6) (by decide) dX3_init_18 ?_
  obtain ⟨g12, hq⟩ := gd hq
  refine A_newL (pc := 20) X aK_1 g12 dX3_init_20 ?_
  refine A_ltR hq (fun r13 hq => ?_)
  refine A_ltH hq (fun h14 hq => ?_)
  obtain ⟨g15, hq⟩ := gd hq
  refine A_putF (pc := 22) X g15 fq_3_20 rfl rfl dX3_init_22 ?_
  refine A_ltH hq (fun h16 hq => ?_)
  refine A_aload_n (pc := 25) X (j := 0) (i := 0) rfl rfl dX3_init_25 ?_
  refine A_bipush (pc := 26) X (v := 6) (by decide) dX3_init_26 ?_
  obtain ⟨g17, hq⟩ := gd hq
  refine A_newL (pc := 28) X aK_1 g17 dX3_init_28 ?_
  refine A_ltR hq (fun r18 hq => ?_)
  refine A_ltH hq (fun h19 hq => ?_)
  obtain ⟨g20, hq⟩ := gd hq
  refine A_putF (pc := 30) X g20 fq_3_24 rfl rfl dX3_init_30 ?_
  refine A_ltH hq (fun h21 hq => ?_)
  refine A_aload_n (pc := 33) X (j := 0) (i := 0) rfl rfl dX3_init_33 ?_
  refine A_bipush (pc := 34) X (v := 24) (by decide) dX3_init_34 ?_
  obtain ⟨g22, hq⟩ := gd hq
  refine A_newI (pc := 36) X aK_0 g22 dX3_init_36 ?_
  refine A_ltR hq (fun r23 hq => ?_)
  refine A_ltH hq (fun h24 hq => ?_)
  obtain ⟨g25, hq⟩ := gd hq
  refine A_putF (pc := 38) X g25 fq_3_27 rfl rfl dX3_init_38 ?_
  refine A_ltH hq (fun h26 hq => ?_)
  refine A_aload_n (pc := 41) X (j := 0) (i := 0) rfl rfl dX3_init_41 ?_
  refine A_bipush (pc := 42) X (v := 24) (by decide) dX3_init_42 ?_
  obtain ⟨g27, hq⟩ := gd hq
  refine A_newI (pc := 44) X aK_0 g27 dX3_init_44 ?_
  refine A_ltR hq (fun r28 hq => ?_)
  refine A_ltH hq (fun h29 hq => ?_)
  obtain ⟨g30, hq⟩ := gd hq
  refine A_putF (pc := 46) X g30 fq_3_31 rfl rfl dX3_init_46 ?_
  refine A_ltH hq (fun h31 hq => ?_)
  refine A_aload_n (pc := 49) X (j := 0) (i := 0) rfl rfl dX3_init_49 ?_
  refine A_sipush (pc := 50) X (v := 144) (by decide) dX3_init_50 ?_
  obtain ⟨g32, hq⟩ := gd hq
  refine A_newI (pc := 53) X aK_0 g32 dX3_init_53 ?_
  refine A_ltR hq (fun r33 hq => ?_)
  refine A_ltH hq (fun h34 hq => ?_)
  obtain ⟨g35, hq⟩ := gd hq
  refine A_putF (pc := 55) X g35 fq_3_34 rfl rfl dX3_init_55 ?_
  refine A_ltH hq (fun h36 hq => ?_)
  refine A_aload_n (pc := 58) X (j := 0) (i := 0) rfl rfl dX3_init_58 ?_
  refine A_sipush (pc := 59) X (v := 145) (by decide) dX3_init_59 ?_
  obtain ⟨g37, hq⟩ := gd hq
  refine A_newL (pc := 62) X aK_1 g37 dX3_init_62 ?_
  refine A_ltR hq (fun r38 hq => ?_)
  refine A_ltH hq (fun h39 hq => ?_)
  obtain ⟨g40, hq⟩ := gd hq
  refine A_putF (pc := 64) X g40 fq_3_37 rfl rfl dX3_init_64 ?_
  refine A_ltH hq (fun h41 hq => ?_)
  obtain ⟨g42, hq⟩ := gd hq
  obtain rfl := Option.some.inj hq
  exact A_vret (pc := 67) X g42 dX3_init_67
set_option maxRecDepth 100000 in
theorem mA_X3_init (x0 : Nat) (n : Nat) (h : Hp) (q : Ga) (hq : fA_X3_init x0 (n, n, 0, h) = some q) : ∀ l w, CTA l w yX3_init cX3_init 1 4 8 375 [.inr (.inr x0)] n h (q.1, q.2.2.2) :=
  CTA_of (L0 := [(0, .inr (.inr x0))]) (by decide) rfl (Nat.le_of_ble_eq_true rfl) (fun κ X => tfA_X3_init X x0 (n, n, 0, h) q hq)
set_option maxRecDepth 100000 in
theorem tfA_X11_init {κ : Kx} (X : OKA κ cX11_init 1 "StruckWords$Walk" "<init>" 4 6 202) (x0 : Nat) (h : Ga) (q : Ga) (hq : fA_X11_init x0 h = some q) : JA κ 0 [(0, .inr (.inr x0))] [] h (q.1, q.2.2.2) := by
  delta fA_X11_init at hq
  refine A_aload_n (pc := 0) X (j := 0) (i := 0) rfl rfl dX11_init_0 ?_
  obtain ⟨g1, hq⟩ := gd hq
  refine A_objInit (pc := 1) X ml_11_3 (by decide) (Nat.le_of_ble_eq_true rfl) dX11_init_1 (of_decide_eq_true g1) ?_
  refine A_aload_n (pc := 4) X (j := 0) (i := 0) rfl rfl dX11_init_4 ?_
  refine A_bipush (pc := 5) X (v := 84) (by decide) dX11_init_5 ?_
  obtain ⟨g2, hq⟩ := gd hq
  refine A_newL (pc := 7) X aK_1 g2 dX11_init_7 ?_
  refine A_ltR hq (fun r3 hq => ?_)
  refine A_ltH hq (fun h4 hq => ?_)
  obtain ⟨g5, hq⟩ := gd hq
  refine A_putF (pc := 9) X g5 fq_11_9 rfl rfl dX11_init_9 ?_
  refine A_ltH hq (fun h6 hq => ?_)
  refine A_aload_n (pc := 12) X (j := 0) (i := 0) rfl rfl dX11_init_12 ?_
  refine A_bipush (pc := 13) X (v := 84) (by decide) dX11_init_13 ?_
  obtain ⟨g7, hq⟩ := gd hq
  refine A_newI (pc := 15) X aK_0 g7 dX11_init_15 ?_
  refine A_ltR hq (fun r8 hq => ?_)
  refine A_ltH hq (fun h9 hq => ?_)
  obtain ⟨g10, hq⟩ := gd hq
  refine A_putF (pc := 17) X g10 fq_11_15 rfl rfl dX11_init_17 ?_
  refine A_ltH hq (fun h11 hq => ?_)
  refine A_aload_n (pc := 20) X (j := 0) (i := 0) rfl rfl dX11_init_20 ?_
  refine A_bipush (pc := 21) X (v := 13) (by decide) dX11_init_21 ?_
  obtain ⟨g12, hq⟩ := gd hq
  refine A_newI (pc := 23) X aK_0 g12 dX11_init_23 ?_
  refine A_ltR hq (fun r13 hq => ?_)
  refine A_ltH hq (fun h14 hq => ?_)
  obtain ⟨g15, hq⟩ := gd hq
  refine A_putF (pc := 25) X g15 fq_11_19 rfl rfl dX11_init_25 ?_
  refine A_ltH hq (fun h16 hq => ?_)
  refine A_aload_n (pc := 28) X (j := 0) (i := 0) rfl rfl dX11_init_28 ?_
  refine A_bipush (pc := 29) X (v := 6) (by decide) dX11_init_29 ?_
  obtain ⟨g17, hq⟩ := gd hq
  refine A_newI (pc := 31) X aK_0 g17 dX11_init_31 ?_
  refine A_ltR hq (fun r18 hq => ?_)
  refine A_ltH hq (fun h19 hq => ?_)
  obtain ⟨g20, hq⟩ := gd hq
  refine A_putF (pc := 33) X g20 fq_11_22 rfl rfl dX11_init_33 ?_
  refine A_ltH hq (fun h21 hq => ?_)
  refine A_aload_n (pc := 36) X (j := 0) (i := 0) rfl rfl dX11_init_36 ?_
  obtain ⟨g22, hq⟩ := gd hq
  refine A_new (pc := 37) X (ty := tyX7) (show vwCl[5]? = some ("StruckWords$Row", TX7, 2) from rfl) iX7 tyX7_ok cK_11_25 in_c7 ii_c7 df_c7 (by decide) g22 dX11_init_37 ?_
  refine A_ltR hq (fun r23 hq => ?_)
  refine A_ltH hq (fun h24 hq => ?_)
  refine A_dup (pc := 40) X rfl dX11_init_40 ?_
  refine A_bipush (pc := 41) X (v := 13) (by decide) dX11_init_41 ?_
  obtain ⟨g29, hq⟩ := gd hq
  obtain ⟨g26, q27, hc, e28, hq⟩ := bna_e hq
  refine A_callI (pc := 43) (as := [.inl 13]) (st := [.inr (.inr r23), .inr (.inr x0)]) (c1 := 1) (s1 := 13) (ky := 3) X dX11_init_43 ca_X7_init ci_X7_init rfl ml_11_27 (by decide) (mA_row _ _ _ _ _ (by decide) hc) (of_decide_eq_true g29) rfl rfl (Nat.le_of_ble_eq_true rfl) g26 e28 ?_
  revert hq
  generalize hgh25 : ((q27.1, h24.2.1, h24.2.2.1 + 13, q27.2.2.2) : Ga) = h25
  intro hq
  obtain ⟨g30, hq⟩ := gd hq
  refine A_putF (pc := 46) X g30 fq_11_30 rfl rfl dX11_init_46 ?_
  refine A_ltH hq (fun h31 hq => ?_)
  refine A_aload_n (pc := 49) X (j := 0) (i := 0) rfl rfl dX11_init_49 ?_
  refine A_iconst (pc := 50) X (v := (-1)) (by decide) dX11_init_50 ?_
  obtain ⟨g32, hq⟩ := gd hq
  refine A_putI (pc := 51) X g32 fp_11_34 rfl dX11_init_51 ?_
  refine A_ltH hq (fun h33 hq => ?_)
  refine A_aload_n (pc := 54) X (j := 0) (i := 0) rfl rfl dX11_init_54 ?_
  refine A_iconst (pc := 55) X (v := (-1)) (by decide) dX11_init_55 ?_
  obtain ⟨g34, hq⟩ := gd hq
  refine A_putI (pc := 56) X g34 fp_11_38 rfl dX11_init_56 ?_
  refine A_ltH hq (fun h35 hq => ?_)
  obtain ⟨g36, hq⟩ := gd hq
  obtain rfl := Option.some.inj hq
  exact A_vret (pc := 59) X g36 dX11_init_59
set_option maxRecDepth 100000 in
theorem mA_X11_init (x0 : Nat) (n : Nat) (h : Hp) (q : Ga) (hq : fA_X11_init x0 (n, n, 0, h) = some q) : ∀ l w, CTA l w yX11_init cX11_init 1 4 6 202 [.inr (.inr x0)] n h (q.1, q.2.2.2) :=
  CTA_of (L0 := [(0, .inr (.inr x0))]) (by decide) rfl (Nat.le_of_ble_eq_true rfl) (fun κ X => tfA_X11_init X x0 (n, n, 0, h) q hq)
set_option maxRecDepth 100000 in
theorem tfA_X2_init {κ : Kx} (X : OKA κ cX2_init 1 "StruckWords$Finder" "<init>" 5 10 220) (x0 : Nat) (h : Ga) (q : Ga) (hq : fA_X2_init x0 h = some q) : JA κ 0 [(0, .inr (.inr x0))] [] h (q.1, q.2.2.2) := by
  delta fA_X2_init at hq
  refine A_aload_n (pc := 0) X (j := 0) (i := 0) rfl rfl dX2_init_0 ?_
  obtain ⟨g1, hq⟩ := gd hq
  refine A_objInit (pc := 1) X ml_2_3 (by decide) (Nat.le_of_ble_eq_true rfl) dX2_init_1 (of_decide_eq_true g1) ?_
  refine A_aload_n (pc := 4) X (j := 0) (i := 0) rfl rfl dX2_init_4 ?_
  obtain ⟨g2, hq⟩ := gd hq
  refine A_new (pc := 5) X (ty := tyX11) (show vwCl[9]? = some ("StruckWords$Walk", TX11, 9) from rfl) iX11 tyX11_ok cK_2_9 in_c11 ii_c11 df_c11 (by decide) g2 dX2_init_5 ?_
  refine A_ltR hq (fun r3 hq => ?_)
  refine A_ltH hq (fun h4 hq => ?_)
  refine A_dup (pc := 8) X rfl dX2_init_8 ?_
  obtain ⟨g9, hq⟩ := gd hq
  obtain ⟨g6, q7, hc, e8, hq⟩ := bna_e hq
  refine A_callIN (pc := 9) (as := []) (st := [.inr (.inr r3), .inr (.inr x0)]) (c1 := 6) (s1 := 202) (ky := 4) X dX2_init_9 ca_X11_init ci_X11_init rfl (by decide) (by decide) (mA_X11_init _ _ _ _ hc) (of_decide_eq_true g9) rfl rfl (Nat.le_of_ble_eq_true rfl) g6 e8 ?_
  revert hq
  generalize hgh5 : ((q7.1, h4.2.1, h4.2.2.1 + 202, q7.2.2.2) : Ga) = h5
  intro hq
  obtain ⟨g10, hq⟩ := gd hq
  refine A_putF (pc := 12) X g10 fq_2_12 rfl rfl dX2_init_12 ?_
  refine A_ltH hq (fun h11 hq => ?_)
  refine A_aload_n (pc := 15) X (j := 0) (i := 0) rfl rfl dX2_init_15 ?_
  obtain ⟨g12, hq⟩ := gd hq
  refine A_new (pc := 16) X (ty := tyX1) (show vwCl[0]? = some ("StruckWords$Edict", TX1, 2) from rfl) iX1 tyX1_ok cK_2_18 in_c1 ii_c1 df_c1 (by decide) g12 dX2_init_16 ?_
  refine A_ltR hq (fun r13 hq => ?_)
  refine A_ltH hq (fun h14 hq => ?_)
  refine A_dup (pc := 19) X rfl dX2_init_19 ?_
  obtain ⟨g19, hq⟩ := gd hq
  obtain ⟨g16, q17, hc, e18, hq⟩ := bna_e hq
  refine A_callIN (pc := 20) (as := []) (st := [.inr (.inr r13), .inr (.inr x0)]) (c1 := 0) (s1 := 0) (ky := 3) X dX2_init_20 ca_X1_init ci_X1_init rfl (by decide) (by decide) (mA_X1_init _ _ _ _ hc) (of_decide_eq_true g19) rfl rfl (Nat.le_of_ble_eq_true rfl) g16 e18 ?_
  revert hq
  generalize hgh15 : ((q17.1, h14.2.1, h14.2.2.1 + 0, q17.2.2.2) : Ga) = h15
  intro hq
  obtain ⟨g20, hq⟩ := gd hq
  refine A_putF (pc := 23) X g20 fq_2_21 rfl rfl dX2_init_23 ?_
  refine A_ltH hq (fun h21 hq => ?_)
  refine A_aload_n (pc := 26) X (j := 0) (i := 0) rfl rfl dX2_init_26 ?_
  obtain ⟨g22, hq⟩ := gd hq
  refine A_new (pc := 27) X (ty := tyX7) (show vwCl[5]? = some ("StruckWords$Row", TX7, 2) from rfl) iX7 tyX7_ok cK_2_25 in_c7 ii_c7 df_c7 (by decide) g22 dX2_init_27 ?_
  refine A_ltR hq (fun r23 hq => ?_)
  refine A_ltH hq (fun h24 hq => ?_)
  refine A_dup (pc := 30) X rfl dX2_init_30 ?_
  refine A_iconst (pc := 31) X (v := 5) (by decide) dX2_init_31 ?_
  obtain ⟨g29, hq⟩ := gd hq
  obtain ⟨g26, q27, hc, e28, hq⟩ := bna_e hq
  refine A_callI (pc := 32) (as := [.inl 5]) (st := [.inr (.inr r23), .inr (.inr x0)]) (c1 := 1) (s1 := 5) (ky := 3) X dX2_init_32 ca_X7_init ci_X7_init rfl ml_2_27 (by decide) (mA_row _ _ _ _ _ (by decide) hc) (of_decide_eq_true g29) rfl rfl (Nat.le_of_ble_eq_true rfl) g26 e28 ?_
  revert hq
  generalize hgh25 : ((q27.1, h24.2.1, h24.2.2.1 + 5, q27.2.2.2) : Ga) = h25
  intro hq
  obtain ⟨g30, hq⟩ := gd hq
  refine A_putF (pc := 35) X g30 fq_2_30 rfl rfl dX2_init_35 ?_
  refine A_ltH hq (fun h31 hq => ?_)
  obtain ⟨g32, hq⟩ := gd hq
  obtain rfl := Option.some.inj hq
  exact A_vret (pc := 38) X g32 dX2_init_38
set_option maxRecDepth 100000 in
theorem mA_X2_init (x0 : Nat) (n : Nat) (h : Hp) (q : Ga) (hq : fA_X2_init x0 (n, n, 0, h) = some q) : ∀ l w, CTA l w yX2_init cX2_init 1 5 10 220 [.inr (.inr x0)] n h (q.1, q.2.2.2) :=
  CTA_of (L0 := [(0, .inr (.inr x0))]) (by decide) rfl (Nat.le_of_ble_eq_true rfl) (fun κ X => tfA_X2_init X x0 (n, n, 0, h) q hq)
set_option maxRecDepth 100000 in
theorem tfA_X8_init {κ : Kx} (X : OKA κ cX8_init 1 "StruckWords$Tear" "<init>" 4 6 192) (x0 : Nat) (h : Ga) (q : Ga) (hq : fA_X8_init x0 h = some q) : JA κ 0 [(0, .inr (.inr x0))] [] h (q.1, q.2.2.2) := by
  delta fA_X8_init at hq
  refine A_aload_n (pc := 0) X (j := 0) (i := 0) rfl rfl dX8_init_0 ?_
  obtain ⟨g1, hq⟩ := gd hq
  refine A_objInit (pc := 1) X ml_8_3 (by decide) (Nat.le_of_ble_eq_true rfl) dX8_init_1 (of_decide_eq_true g1) ?_
  refine A_aload_n (pc := 4) X (j := 0) (i := 0) rfl rfl dX8_init_4 ?_
  obtain ⟨g2, hq⟩ := gd hq
  refine A_new (pc := 5) X (ty := tyX7) (show vwCl[5]? = some ("StruckWords$Row", TX7, 2) from rfl) iX7 tyX7_ok cK_8_9 in_c7 ii_c7 df_c7 (by decide) g2 dX8_init_5 ?_
  refine A_ltR hq (fun r3 hq => ?_)
  refine A_ltH hq (fun h4 hq => ?_)
  refine A_dup (pc := 8) X rfl dX8_init_8 ?_
  refine A_bipush (pc := 9) X (v := 12) (by decide) dX8_init_9 ?_
  obtain ⟨g9, hq⟩ := gd hq
  obtain ⟨g6, q7, hc, e8, hq⟩ := bna_e hq
  refine A_callI (pc := 11) (as := [.inl 12]) (st := [.inr (.inr r3), .inr (.inr x0)]) (c1 := 1) (s1 := 12) (ky := 3) X dX8_init_11 ca_X7_init ci_X7_init rfl ml_8_11 (by decide) (mA_row _ _ _ _ _ (by decide) hc) (of_decide_eq_true g9) rfl rfl (Nat.le_of_ble_eq_true rfl) g6 e8 ?_
  revert hq
  generalize hgh5 : ((q7.1, h4.2.1, h4.2.2.1 + 12, q7.2.2.2) : Ga) = h5
  intro hq
  obtain ⟨g10, hq⟩ := gd hq
  refine A_putF (pc := 14) X g10 fq_8_14 rfl rfl dX8_init_14 ?_
  refine A_ltH hq (fun h11 hq => ?_)
  refine A_aload_n (pc := 17) X (j := 0) (i := 0) rfl rfl dX8_init_17 ?_
  refine A_bipush (pc := 18) X (v := 12) (by decide) dX8_init_18 ?_
  obtain ⟨g12, hq⟩ := gd hq
  refine A_newI (pc := 20) X aK_0 g12 dX8_init_20 ?_
  refine A_ltR hq (fun r13 hq => ?_)
  refine A_ltH hq (fun h14 hq => ?_)
  obtain ⟨g15, hq⟩ := gd hq
  refine A_putF (pc := 22) X g15 fq_8_20 rfl rfl dX8_init_22 ?_
  refine A_ltH hq (fun h16 hq => ?_)
  refine A_aload_n (pc := 25) X (j := 0) (i := 0) rfl rfl dX8_init_25 ?_
  refine A_bipush (pc := 26) X (v := 48) (by decide) dX8_init_26 ?_
  obtain ⟨g17, hq⟩ := gd hq
  refine A_newL (pc := 28) X aK_1 g17 dX8_init_28 ?_
  refine A_ltR hq (fun r18 hq => ?_)
  refine A_ltH hq (fun h19 hq => ?_)
  obtain ⟨g20, hq⟩ := gd hq
  refine A_putF (pc := 30) X g20 fq_8_24 rfl rfl dX8_init_30 ?_
  refine A_ltH hq (fun h21 hq => ?_)
  refine A_aload_n (pc := 33) X (j := 0) (i := 0) rfl rfl dX8_init_33 ?_
  refine A_bipush (pc := 34) X (v := 40) (by decide) dX8_init_34 ?_
  obtain ⟨g22, hq⟩ := gd hq
  refine A_newL (pc := 36) X aK_1 g22 dX8_init_36 ?_
  refine A_ltR hq (fun r23 hq => ?_)
  refine A_ltH hq (fun h24 hq => ?_)
  obtain ⟨g25, hq⟩ := gd hq
  refine A_putF (pc := 38) X g25 fq_8_28 rfl rfl dX8_init_38 ?_
  refine A_ltH hq (fun h26 hq => ?_)
  refine A_aload_n (pc := 41) X (j := 0) (i := 0) rfl rfl dX8_init_41 ?_
  refine A_bipush (pc := 42) X (v := 78) (by decide) dX8_init_42 ?_
  obtain ⟨g27, hq⟩ := gd hq
  refine A_newL (pc := 44) X aK_1 g27 dX8_init_44 ?_
  refine A_ltR hq (fun r28 hq => ?_)
  refine A_ltH hq (fun h29 hq => ?_)
  obtain ⟨g30, hq⟩ := gd hq
  refine A_putF (pc := 46) X g30 fq_8_31 rfl rfl dX8_init_46 ?_
  refine A_ltH hq (fun h31 hq => ?_)
  obtain ⟨g32, hq⟩ := gd hq
  obtain rfl := Option.some.inj hq
  exact A_vret (pc := 49) X g32 dX8_init_49
set_option maxRecDepth 100000 in
theorem mA_X8_init (x0 : Nat) (n : Nat) (h : Hp) (q : Ga) (hq : fA_X8_init x0 (n, n, 0, h) = some q) : ∀ l w, CTA l w yX8_init cX8_init 1 4 6 192 [.inr (.inr x0)] n h (q.1, q.2.2.2) :=
  CTA_of (L0 := [(0, .inr (.inr x0))]) (by decide) rfl (Nat.le_of_ble_eq_true rfl) (fun κ X => tfA_X8_init X x0 (n, n, 0, h) q hq)
set_option maxRecDepth 100000 in
theorem tfA_X12_init {κ : Kx} (X : OKA κ cX12_init 1 "StruckWords" "<init>" 6 153 9418) (x0 : Nat) (h : Ga) (q : Ga) (hq : fA_X12_init x0 h = some q) : JA κ 0 [(0, .inr (.inr x0))] [] h (q.1, q.2.2.2) := by
  delta fA_X12_init at hq
  refine A_aload_n (pc := 0) X (j := 0) (i := 0) rfl rfl dX12_init_0 ?_
  obtain ⟨g1, hq⟩ := gd hq
  refine A_objInit (pc := 1) X ml_12_3 (by decide) (Nat.le_of_ble_eq_true rfl) dX12_init_1 (of_decide_eq_true g1) ?_
  refine A_aload_n (pc := 4) X (j := 0) (i := 0) rfl rfl dX12_init_4 ?_
  obtain ⟨g2, hq⟩ := gd hq
  refine A_new (pc := 5) X (ty := tyX7) (show vwCl[5]? = some ("StruckWords$Row", TX7, 2) from rfl) iX7 tyX7_ok cK_12_9 in_c7 ii_c7 df_c7 (by decide) g2 dX12_init_5 ?_
  refine A_ltR hq (fun r3 hq => ?_)
  refine A_ltH hq (fun h4 hq => ?_)
  refine A_dup (pc := 8) X rfl dX12_init_8 ?_
  refine A_sipush (pc := 9) X (v := 940) (by decide) dX12_init_9 ?_
  obtain ⟨g9, hq⟩ := gd hq
  obtain ⟨g6, q7, hc, e8, hq⟩ := bna_e hq
  refine A_callI (pc := 12) (as := [.inl 940]) (st := [.inr (.inr r3), .inr (.inr x0)]) (c1 := 1) (s1 := 940) (ky := 3) X dX12_init_12 ca_X7_init ci_X7_init rfl ml_12_11 (by decide) (mA_row _ _ _ _ _ (by decide) hc) (of_decide_eq_true g9) rfl rfl (Nat.le_of_ble_eq_true rfl) g6 e8 ?_
  revert hq
  generalize hgh5 : ((q7.1, h4.2.1, h4.2.2.1 + 940, q7.2.2.2) : Ga) = h5
  intro hq
  obtain ⟨g10, hq⟩ := gd hq
  refine A_putF (pc := 15) X g10 fq_12_14 rfl rfl dX12_init_15 ?_
  refine A_ltH hq (fun h11 hq => ?_)
  refine A_aload_n (pc := 18) X (j := 0) (i := 0) rfl rfl dX12_init_18 ?_
  obtain ⟨g12, hq⟩ := gd hq
  refine A_new (pc := 19) X (ty := tyX6) (show vwCl[4]? = some ("StruckWords$Reader", TX6, 6) from rfl) iX6 tyX6_ok cK_12_18 in_c6 ii_c6 df_c6 (by decide) g12 dX12_init_19 ?_
  refine A_ltR hq (fun r13 hq => ?_)
  refine A_ltH hq (fun h14 hq => ?_)
  refine A_dup (pc := 22) X rfl dX12_init_22 ?_
  obtain ⟨g19, hq⟩ := gd hq
  obtain ⟨g16, q17, hc, e18, hq⟩ := bna_e hq
  refine A_callIN (pc := 23) (as := []) (st := [.inr (.inr r13), .inr (.inr x0)]) (c1 := 1) (s1 := 7) (ky := 4) X dX12_init_23 ca_X6_init ci_X6_init rfl (by decide) (by decide) (mA_X6_init _ _ _ _ hc) (of_decide_eq_true g19) rfl rfl (Nat.le_of_ble_eq_true rfl) g16 e18 ?_
  revert hq
  generalize hgh15 : ((q17.1, h14.2.1, h14.2.2.1 + 7, q17.2.2.2) : Ga) = h15
  intro hq
  obtain ⟨g20, hq⟩ := gd hq
  refine A_putF (pc := 26) X g20 fq_12_21 rfl rfl dX12_init_26 ?_
  refine A_ltH hq (fun h21 hq => ?_)
  refine A_aload_n (pc := 29) X (j := 0) (i := 0) rfl rfl dX12_init_29 ?_
  obtain ⟨g22, hq⟩ := gd hq
  refine A_new (pc := 30) X (ty := tyX5) (show vwCl[3]? = some ("StruckWords$Matter", TX5, 4) from rfl) iX5 tyX5_ok cK_12_25 in_c5 ii_c5 df_c5 (by decide) g22 dX12_init_30 ?_
  refine A_ltR hq (fun r23 hq => ?_)
  refine A_ltH hq (fun h24 hq => ?_)
  refine A_dup (pc := 33) X rfl dX12_init_33 ?_
  obtain ⟨g29, hq⟩ := gd hq
  obtain ⟨g26, q27, hc, e28, hq⟩ := bna_e hq
  refine A_callI (pc := 34) (as := []) (st := [.inr (.inr r23), .inr (.inr x0)]) (c1 := 34) (s1 := 1972) (ky := 5) X dX12_init_34 ca_X5_init ci_X5_init rfl ml_12_27 (by decide) (mA_X5_init _ _ _ _ hc) (of_decide_eq_true g29) rfl rfl (Nat.le_of_ble_eq_true rfl) g26 e28 ?_
  revert hq
  generalize hgh25 : ((q27.1, h24.2.1, h24.2.2.1 + 1972, q27.2.2.2) : Ga) = h25
  intro hq
  obtain ⟨g30, hq⟩ := gd hq
  refine A_putF (pc := 37) X g30 fq_12_28 rfl rfl dX12_init_37 ?_
  refine A_ltH hq (fun h31 hq => ?_)
  refine A_aload_n (pc := 40) X (j := 0) (i := 0) rfl rfl dX12_init_40 ?_
  refine A_iconst (pc := 41) X (v := 2) (by decide) dX12_init_41 ?_
  obtain ⟨g32, hq⟩ := gd hq
  refine A_anewM (pc := 42) X cK_12_25 g32 dX12_init_42 ?_
  refine A_ltR hq (fun r33 hq => ?_)
  refine A_ltH hq (fun h34 hq => ?_)
  refine A_dup (pc := 45) X rfl dX12_init_45 ?_
  refine A_iconst (pc := 46) X (v := 0) (by decide) dX12_init_46 ?_
  obtain ⟨g35, hq⟩ := gd hq
  refine A_new (pc := 47) X (ty := tyX5) (show vwCl[3]? = some ("StruckWords$Matter", TX5, 4) from rfl) iX5 tyX5_ok cK_12_25 in_c5 ii_c5 df_c5 (by decide) g35 dX12_init_47 ?_
  refine A_ltR hq (fun r36 hq => ?_)
  refine A_ltH hq (fun h37 hq => ?_)
  refine A_dup (pc := 50) X rfl dX12_init_50 ?_
  obtain ⟨g42, hq⟩ := gd hq
  obtain ⟨g39, q40, hc, e41, hq⟩ := bna_e hq
  refine A_callI (pc := 51) (as := []) (st := [.inr (.inr r36), .inl 0, .inr (.inr r33), .inr (.inr r33), .inr (.inr x0)]) (c1 := 34) (s1 := 1972) (ky := 5) X dX12_init_51 ca_X5_init ci_X5_init rfl ml_12_27 (by decide) (mA_X5_init _ _ _ _ hc) (of_decide_eq_true g42) rfl rfl (Nat.le_of_ble_eq_true rfl) g39 e41 ?_
  revert hq
  generalize hgh38 : ((q40.1, h37.2.1, h37.2.2.1 + 1972, q40.2.2.2) : Ga) = h38
  intro hq
  obtain ⟨g43, hq⟩ := gd hq
  obtain ⟨g44, hq⟩ := gd hq
  refine A_aastoreM (pc := 54) X g43 g44 dX12_init_54 ?_
  refine A_ltH hq (fun h45 hq => ?_)
  refine A_dup (pc := 55) X rfl dX12_init_55 ?_
  refine A_iconst (pc := 56) X (v := 1) (by decide) dX12_init_56 ?_
  obtain ⟨g46, hq⟩ := gd hq
  refine A_new (pc := 57) X (ty := tyX5) (show vwCl[3]? = some ("StruckWords$Matter", TX5, 4) from rfl) iX5 tyX5_ok cK_12_25 in_c5 ii_c5 df_c5 (by decide) g46 dX12_init_57 ?_
  refine A_ltR hq (fun r47 hq => ?_)
  refine A_ltH hq (fun h48 hq => ?_)
  refine A_dup (pc := 60) X rfl dX12_init_60 ?_
  obtain ⟨g53, hq⟩ := gd hq
  obtain ⟨g50, q51, hc, e52, hq⟩ := bna_e hq
  refine A_callI (pc := 61) (as := []) (st := [.inr (.inr r47), .inl 1, .inr (.inr r33), .inr (.inr r33), .inr (.inr x0)]) (c1 := 34) (s1 := 1972) (ky := 5) X dX12_init_61 ca_X5_init ci_X5_init rfl ml_12_27 (by decide) (mA_X5_init _ _ _ _ hc) (of_decide_eq_true g53) rfl rfl (Nat.le_of_ble_eq_true rfl) g50 e52 ?_
  revert hq
  generalize hgh49 : ((q51.1, h48.2.1, h48.2.2.1 + 1972, q51.2.2.2) : Ga) = h49
  intro hq
  obtain ⟨g54, hq⟩ := gd hq
  obtain ⟨g55, hq⟩ := gd hq
  refine A_aastoreM (pc := 64) X g54 g55 dX12_init_64 ?_
  refine A_ltH hq (fun h56 hq => ?_)
  obtain ⟨g57, hq⟩ := gd hq
  refine A_putF (pc := 65) X g57 fq_12_32 rfl rfl dX12_init_65 ?_
  refine A_ltH hq (fun h58 hq => ?_)
  refine A_aload_n (pc := 68) X (j := 0) (i := 0) rfl rfl dX12_init_68 ?_
  refine A_iconst (pc := 69) X (v := 2) (by decide) dX12_init_69 ?_
  obtain ⟨g59, hq⟩ := gd hq
  refine A_newZ (pc := 70) X aK_3 g59 dX12_init_70 ?_
  refine A_ltR hq (fun r60 hq => ?_)
  refine A_ltH hq (fun h61 hq => ?_)
  obtain ⟨g62, hq⟩ := gd hq
  refine A_putF (pc := 72) X g62 fq_12_36 rfl rfl dX12_init_72 ?_
  refine A_ltH hq (fun h63 hq => ?_)
  refine A_aload_n (pc := 75) X (j := 0) (i := 0) rfl rfl dX12_init_75 ?_
  obtain ⟨g64, hq⟩ := gd hq
  refine A_new (pc := 76) X (ty := tyX3) (show vwCl[2]? = some ("StruckWords$Judge", TX3, 8) from rfl) iX3 tyX3_ok cK_12_40 in_c3 ii_c3 df_c3 (by decide) g64 dX12_init_76 ?_
  refine A_ltR hq (fun r65 hq => ?_)
  refine A_ltH hq (fun h66 hq => ?_)
  refine A_dup (pc := 79) X rfl dX12_init_79 ?_
  obtain ⟨g71, hq⟩ := gd hq
  obtain ⟨g68, q69, hc, e70, hq⟩ := bna_e hq
  refine A_callIN (pc := 80) (as := []) (st := [.inr (.inr r65), .inr (.inr x0)]) (c1 := 8) (s1 := 375) (ky := 4) X dX12_init_80 ca_X3_init ci_X3_init rfl (by decide) (by decide) (mA_X3_init _ _ _ _ hc) (of_decide_eq_true g71) rfl rfl (Nat.le_of_ble_eq_true rfl) g68 e70 ?_
  revert hq
  generalize hgh67 : ((q69.1, h66.2.1, h66.2.2.1 + 375, q69.2.2.2) : Ga) = h67
  intro hq
  obtain ⟨g72, hq⟩ := gd hq
  refine A_putF (pc := 83) X g72 fq_12_43 rfl rfl dX12_init_83 ?_
  refine A_ltH hq (fun h73 hq => ?_)
  refine A_aload_n (pc := 86) X (j := 0) (i := 0) rfl rfl dX12_init_86 ?_
  obtain ⟨g74, hq⟩ := gd hq
  refine A_new (pc := 87) X (ty := tyX2) (show vwCl[1]? = some ("StruckWords$Finder", TX2, 6) from rfl) iX2 tyX2_ok cK_12_47 in_c2 ii_c2 df_c2 (by decide) g74 dX12_init_87 ?_
  refine A_ltR hq (fun r75 hq => ?_)
  refine A_ltH hq (fun h76 hq => ?_)
  refine A_dup (pc := 90) X rfl dX12_init_90 ?_
  obtain ⟨g81, hq⟩ := gd hq
  obtain ⟨g78, q79, hc, e80, hq⟩ := bna_e hq
  refine A_callIN (pc := 91) (as := []) (st := [.inr (.inr r75), .inr (.inr x0)]) (c1 := 10) (s1 := 220) (ky := 5) X dX12_init_91 ca_X2_init ci_X2_init rfl (by decide) (by decide) (mA_X2_init _ _ _ _ hc) (of_decide_eq_true g81) rfl rfl (Nat.le_of_ble_eq_true rfl) g78 e80 ?_
  revert hq
  generalize hgh77 : ((q79.1, h76.2.1, h76.2.2.1 + 220, q79.2.2.2) : Ga) = h77
  intro hq
  obtain ⟨g82, hq⟩ := gd hq
  refine A_putF (pc := 94) X g82 fq_12_50 rfl rfl dX12_init_94 ?_
  refine A_ltH hq (fun h83 hq => ?_)
  refine A_aload_n (pc := 97) X (j := 0) (i := 0) rfl rfl dX12_init_97 ?_
  obtain ⟨g84, hq⟩ := gd hq
  refine A_new (pc := 98) X (ty := tyX8) (show vwCl[6]? = some ("StruckWords$Tear", TX8, 13) from rfl) iX8 tyX8_ok cK_12_54 in_c8 ii_c8 df_c8 (by decide) g84 dX12_init_98 ?_
  refine A_ltR hq (fun r85 hq => ?_)
  refine A_ltH hq (fun h86 hq => ?_)
  refine A_dup (pc := 101) X rfl dX12_init_101 ?_
  obtain ⟨g91, hq⟩ := gd hq
  obtain ⟨g88, q89, hc, e90, hq⟩ := bna_e hq
  refine A_callIN (pc := 102) (as := []) (st := [.inr (.inr r85), .inr (.inr x0)]) (c1 := 6) (s1 := 192) (ky := 4) X dX12_init_102 ca_X8_init ci_X8_init rfl (by decide) (by decide) (mA_X8_init _ _ _ _ hc) (of_decide_eq_true g91) rfl rfl (Nat.le_of_ble_eq_true rfl) g88 e90 ?_
  revert hq
  generalize hgh87 : ((q89.1, h86.2.1, h86.2.2.1 + 192, q89.2.2.2) : Ga) = h87
  intro hq
  obtain ⟨g92, hq⟩ := gd hq
  refine A_putF (pc := 105) X g92 fq_12_57 rfl rfl dX12_init_105 ?_
  refine A_ltH hq (fun h93 hq => ?_)
  refine A_aload_n (pc := 108) X (j := 0) (i := 0) rfl rfl dX12_init_108 ?_
  obtain ⟨g94, hq⟩ := gd hq
  refine A_new (pc := 109) X (ty := tyX7) (show vwCl[5]? = some ("StruckWords$Row", TX7, 2) from rfl) iX7 tyX7_ok cK_12_9 in_c7 ii_c7 df_c7 (by decide) g94 dX12_init_109 ?_
  refine A_ltR hq (fun r95 hq => ?_)
  refine A_ltH hq (fun h96 hq => ?_)
  refine A_dup (pc := 112) X rfl dX12_init_112 ?_
  refine A_bipush (pc := 113) X (v := 13) (by decide) dX12_init_113 ?_
  obtain ⟨g101, hq⟩ := gd hq
  obtain ⟨g98, q99, hc, e100, hq⟩ := bna_e hq
  refine A_callI (pc := 115) (as := [.inl 13]) (st := [.inr (.inr r95), .inr (.inr x0)]) (c1 := 1) (s1 := 13) (ky := 3) X dX12_init_115 ca_X7_init ci_X7_init rfl ml_12_11 (by decide) (mA_row _ _ _ _ _ (by decide) hc) (of_decide_eq_true g101) rfl rfl (Nat.le_of_ble_eq_true rfl) g98 e100 ?_
  revert hq
  generalize hgh97 : ((q99.1, h96.2.1, h96.2.2.1 + 13, q99.2.2.2) : Ga) = h97
  intro hq
  obtain ⟨g102, hq⟩ := gd hq
  refine A_putF (pc := 118) X g102 fq_12_61 rfl rfl dX12_init_118 ?_
  refine A_ltH hq (fun h103 hq => ?_)
  refine A_aload_n (pc := 121) X (j := 0) (i := 0) rfl rfl dX12_init_121 ?_
  obtain ⟨g104, hq⟩ := gd hq
  refine A_new (pc := 122) X (ty := tyX10) (show vwCl[8]? = some ("StruckWords$Tongue", TX10, 15) from rfl) iX10 tyX10_ok cK_12_64 in_c10 ii_c10 df_c10 (by decide) g104 dX12_init_122 ?_
  refine A_ltR hq (fun r105 hq => ?_)
  refine A_ltH hq (fun h106 hq => ?_)
  refine A_dup (pc := 125) X rfl dX12_init_125 ?_
  obtain ⟨g111, hq⟩ := gd hq
  obtain ⟨g108, q109, hc, e110, hq⟩ := bna_e hq
  refine A_callI (pc := 126) (as := []) (st := [.inr (.inr r105), .inr (.inr x0)]) (c1 := 10) (s1 := 1661) (ky := 4) X dX12_init_126 ca_X10_init ci_X10_init rfl ml_12_66 (by decide) (mA_X10_init _ _ _ _ hc) (of_decide_eq_true g111) rfl rfl (Nat.le_of_ble_eq_true rfl) g108 e110 ?_
  revert hq
  generalize hgh107 : ((q109.1, h106.2.1, h106.2.2.1 + 1661, q109.2.2.2) : Ga) = h107
  intro hq
  obtain ⟨g112, hq⟩ := gd hq
  refine A_putF (pc := 129) X g112 fq_12_67 rfl rfl dX12_init_129 ?_
  refine A_ltH hq (fun h113 hq => ?_)
  refine A_aload_n (pc := 132) X (j := 0) (i := 0) rfl rfl dX12_init_132 ?_
  obtain ⟨g114, hq⟩ := gd hq
  refine A_new (pc := 133) X (ty := tyX7) (show vwCl[5]? = some ("StruckWords$Row", TX7, 2) from rfl) iX7 tyX7_ok cK_12_9 in_c7 ii_c7 df_c7 (by decide) g114 dX12_init_133 ?_
  refine A_ltR hq (fun r115 hq => ?_)
  refine A_ltH hq (fun h116 hq => ?_)
  refine A_dup (pc := 136) X rfl dX12_init_136 ?_
  refine A_bipush (pc := 137) X (v := 24) (by decide) dX12_init_137 ?_
  obtain ⟨g121, hq⟩ := gd hq
  obtain ⟨g118, q119, hc, e120, hq⟩ := bna_e hq
  refine A_callI (pc := 139) (as := [.inl 24]) (st := [.inr (.inr r115), .inr (.inr x0)]) (c1 := 1) (s1 := 24) (ky := 3) X dX12_init_139 ca_X7_init ci_X7_init rfl ml_12_11 (by decide) (mA_row _ _ _ _ _ (by decide) hc) (of_decide_eq_true g121) rfl rfl (Nat.le_of_ble_eq_true rfl) g118 e120 ?_
  revert hq
  generalize hgh117 : ((q119.1, h116.2.1, h116.2.2.1 + 24, q119.2.2.2) : Ga) = h117
  intro hq
  obtain ⟨g122, hq⟩ := gd hq
  refine A_putF (pc := 142) X g122 fq_12_71 rfl rfl dX12_init_142 ?_
  refine A_ltH hq (fun h123 hq => ?_)
  obtain ⟨g124, hq⟩ := gd hq
  obtain rfl := Option.some.inj hq
  exact A_vret (pc := 145) X g124 dX12_init_145
set_option maxRecDepth 100000 in
theorem mA_X12_init (x0 : Nat) (n : Nat) (h : Hp) (q : Ga) (hq : fA_X12_init x0 (n, n, 0, h) = some q) : ∀ l w, CTA l w yX12_init cX12_init 1 6 153 9418 [.inr (.inr x0)] n h (q.1, q.2.2.2) :=
  CTA_of (L0 := [(0, .inr (.inr x0))]) (by decide) rfl (Nat.le_of_ble_eq_true rfl) (fun κ X => tfA_X12_init X x0 (n, n, 0, h) q hq)
set_option maxRecDepth 100000 in
theorem tFA_X13_plainTongue_2 {κ : Kx} (X : OKA κ cX13_plainTongue 2 "StruckWordsModel" "plainTongue" 2 0 0) (x0 : Nat) (k22 : Ga → Option Ga) (self : Int32 → Ga → Option Ga) (x1 : Int32) (h : Ga) (q : Ga) (hk22 : ∀ (h : Ga) (q : Ga), k22 h = some q → JA κ 22 [(0, .inr (.inr x0))] [] h (q.1, q.2.2.2)) (hself : ∀ (x1 : Int32) (h : Ga) (q : Ga), self x1 h = some q → JA κ 2 [(0, .inr (.inr x0)), (1, .inl x1)] [] h (q.1, q.2.2.2)) (hq : FA_X13_plainTongue_2 x0 k22 self x1 h = some q) : JA κ 2 [(0, .inr (.inr x0)), (1, .inl x1)] [] h (q.1, q.2.2.2) := by
  delta FA_X13_plainTongue_2 at hq
  refine A_iload_n (pc := 2) X (j := 1) (i := 1) rfl rfl dX13_plainTongue_2 ?_
  refine A_sipush (pc := 3) X (v := 437) (by decide) dX13_plainTongue_3 ?_
  refine A_icmp_ge (pc := 6) (tgt := 22) X dX13_plainTongue_6 rfl (fun c1 => ?_) (fun c1 => ?_)
  · have hq := ite_t hq c1
    refine A_sub [0] rfl ?_
    exact hk22 _ _ hq
  · have hq := ite_f hq c1
    refine A_aload_n (pc := 9) X (j := 0) (i := 0) rfl rfl dX13_plainTongue_9 ?_
    obtain ⟨g2, hq⟩ := gd hq
    refine A_getR (pc := 10) X (z := 0) g2 fl_13_37 rfl dX13_plainTongue_10 ?_
    refine A_ltR hq (fun r3 hq => ?_)
    refine A_iload_n (pc := 13) X (j := 1) (i := 1) rfl rfl dX13_plainTongue_13 ?_
    refine A_iconst (pc := 14) X (v := 0) (by decide) dX13_plainTongue_14 ?_
    obtain ⟨g4, hq⟩ := gd hq
    refine A_iastore (pc := 15) X g4 dX13_plainTongue_15 ?_
    refine A_ltH hq (fun h5 hq => ?_)
    refine A_iinc (pc := 16) X (j := 1) (v := 1) (L' := [(1, .inl (x1 + 1)), (0, .inr (.inr x0))]) rfl (by decide) (by decide) rfl dX13_plainTongue_16 ?_
    refine A_goto (pc := 19) X (tgt := 2) dX13_plainTongue_19 rfl ?_
    refine A_sub [1, 0] rfl ?_
    exact hself _ _ _ hq
set_option maxRecDepth 100000 in
theorem tLA_X13_plainTongue_2 {κ : Kx} (X : OKA κ cX13_plainTongue 2 "StruckWordsModel" "plainTongue" 2 0 0) (x0 : Nat) (k22 : Ga → Option Ga) (N : Nat) (x1 : Int32) (h : Ga) (q : Ga) (hk22 : ∀ (h : Ga) (q : Ga), k22 h = some q → JA κ 22 [(0, .inr (.inr x0))] [] h (q.1, q.2.2.2)) (hq : itr2 (FA_X13_plainTongue_2 x0 k22) N x1 h = some q) : JA κ 2 [(0, .inr (.inr x0)), (1, .inl x1)] [] h (q.1, q.2.2.2) :=
  itr2_ind (fun self hs x1 h q hq => tFA_X13_plainTongue_2 X x0 k22 self x1 h q hk22 hs hq) N x1 h q hq
set_option maxRecDepth 100000 in
theorem tFA_X13_plainTongue_38 {κ : Kx} (X : OKA κ cX13_plainTongue 2 "StruckWordsModel" "plainTongue" 2 0 0) (x0 : Nat) (k60 : Ga → Option Ga) (self : Int32 → Ga → Option Ga) (x1 : Int32) (h : Ga) (q : Ga) (hk60 : ∀ (h : Ga) (q : Ga), k60 h = some q → JA κ 60 [] [] h (q.1, q.2.2.2)) (hself : ∀ (x1 : Int32) (h : Ga) (q : Ga), self x1 h = some q → JA κ 38 [(0, .inr (.inr x0)), (1, .inl x1)] [] h (q.1, q.2.2.2)) (hq : FA_X13_plainTongue_38 x0 k60 self x1 h = some q) : JA κ 38 [(0, .inr (.inr x0)), (1, .inl x1)] [] h (q.1, q.2.2.2) := by
  delta FA_X13_plainTongue_38 at hq
  refine A_iload_n (pc := 38) X (j := 1) (i := 1) rfl rfl dX13_plainTongue_38 ?_
  refine A_iconst (pc := 39) X (v := 5) (by decide) dX13_plainTongue_39 ?_
  refine A_icmp_ge (pc := 40) (tgt := 60) X dX13_plainTongue_40 rfl (fun c15 => ?_) (fun c15 => ?_)
  · have hq := ite_t hq c15
    refine A_sub [] rfl ?_
    exact hk60 _ _ hq
  · have hq := ite_f hq c15
    refine A_aload_n (pc := 43) X (j := 0) (i := 0) rfl rfl dX13_plainTongue_43 ?_
    obtain ⟨g16, hq⟩ := gd hq
    refine A_getR (pc := 44) X (z := 0) g16 fl_13_37 rfl dX13_plainTongue_44 ?_
    refine A_ltR hq (fun r17 hq => ?_)
    refine A_sipush (pc := 47) X (v := 432) (by decide) dX13_plainTongue_47 ?_
    refine A_iload_n (pc := 50) X (j := 1) (i := 1) rfl rfl dX13_plainTongue_50 ?_
    refine A_iadd (pc := 51) X dX13_plainTongue_51 ?_
    refine A_iconst (pc := 52) X (v := 1) (by decide) dX13_plainTongue_52 ?_
    obtain ⟨g18, hq⟩ := gd hq
    refine A_iastore (pc := 53) X g18 dX13_plainTongue_53 ?_
    refine A_ltH hq (fun h19 hq => ?_)
    refine A_iinc (pc := 54) X (j := 1) (v := 1) (L' := [(1, .inl (x1 + 1)), (0, .inr (.inr x0))]) rfl (by decide) (by decide) rfl dX13_plainTongue_54 ?_
    refine A_goto (pc := 57) X (tgt := 38) dX13_plainTongue_57 rfl ?_
    refine A_sub [1, 0] rfl ?_
    exact hself _ _ _ hq
set_option maxRecDepth 100000 in
theorem tLA_X13_plainTongue_38 {κ : Kx} (X : OKA κ cX13_plainTongue 2 "StruckWordsModel" "plainTongue" 2 0 0) (x0 : Nat) (k60 : Ga → Option Ga) (N : Nat) (x1 : Int32) (h : Ga) (q : Ga) (hk60 : ∀ (h : Ga) (q : Ga), k60 h = some q → JA κ 60 [] [] h (q.1, q.2.2.2)) (hq : itr2 (FA_X13_plainTongue_38 x0 k60) N x1 h = some q) : JA κ 38 [(0, .inr (.inr x0)), (1, .inl x1)] [] h (q.1, q.2.2.2) :=
  itr2_ind (fun self hs x1 h q hq => tFA_X13_plainTongue_38 X x0 k60 self x1 h q hk60 hs hq) N x1 h q hq
set_option maxRecDepth 100000 in
theorem tfA_X13_plainTongue {κ : Kx} (X : OKA κ cX13_plainTongue 2 "StruckWordsModel" "plainTongue" 2 0 0) (x0 : Nat) (h : Ga) (q : Ga) (hq : fA_X13_plainTongue x0 h = some q) : JA κ 0 [(0, .inr (.inr x0))] [] h (q.1, q.2.2.2) := by
  delta fA_X13_plainTongue at hq
  refine A_iconst (pc := 0) X (v := 0) (by decide) dX13_plainTongue_0 ?_
  refine A_istore_n (pc := 1) X (L' := [(1, .inl 0), (0, .inr (.inr x0))]) (i := 1) rfl (by decide) rfl dX13_plainTongue_1 ?_
  refine A_sub [1, 0] rfl ?_
  refine tLA_X13_plainTongue_2 X _ _ N0 _ _ _ ?_ hq
  · intro h6 q hq
    refine A_aload_n (pc := 22) X (j := 0) (i := 0) rfl rfl dX13_plainTongue_22 ?_
    obtain ⟨g7, hq⟩ := gd hq
    refine A_getR (pc := 23) X (z := 0) g7 fl_13_37 rfl dX13_plainTongue_23 ?_
    refine A_ltR hq (fun r8 hq => ?_)
    refine A_iconst (pc := 26) X (v := 3) (by decide) dX13_plainTongue_26 ?_
    refine A_iconst (pc := 27) X (v := 3) (by decide) dX13_plainTongue_27 ?_
    obtain ⟨g9, hq⟩ := gd hq
    refine A_iastore (pc := 28) X g9 dX13_plainTongue_28 ?_
    refine A_ltH hq (fun h10 hq => ?_)
    refine A_aload_n (pc := 29) X (j := 0) (i := 0) rfl rfl dX13_plainTongue_29 ?_
    obtain ⟨g11, hq⟩ := gd hq
    refine A_getR (pc := 30) X (z := 0) g11 fl_13_37 rfl dX13_plainTongue_30 ?_
    refine A_ltR hq (fun r12 hq => ?_)
    refine A_iconst (pc := 33) X (v := 4) (by decide) dX13_plainTongue_33 ?_
    refine A_iconst (pc := 34) X (v := 1) (by decide) dX13_plainTongue_34 ?_
    obtain ⟨g13, hq⟩ := gd hq
    refine A_iastore (pc := 35) X g13 dX13_plainTongue_35 ?_
    refine A_ltH hq (fun h14 hq => ?_)
    refine A_iconst (pc := 36) X (v := 0) (by decide) dX13_plainTongue_36 ?_
    refine A_istore_n (pc := 37) X (L' := [(1, .inl 0), (0, .inr (.inr x0))]) (i := 1) rfl (by decide) rfl dX13_plainTongue_37 ?_
    refine A_sub [1, 0] rfl ?_
    refine tLA_X13_plainTongue_38 X _ _ N0 _ _ _ ?_ hq
    · intro h20 q hq
      obtain ⟨g21, hq⟩ := gd hq
      obtain rfl := Option.some.inj hq
      exact A_vret (pc := 60) X g21 dX13_plainTongue_60
set_option maxRecDepth 100000 in
theorem mA_X13_plainTongue (x0 : Nat) (n : Nat) (h : Hp) (q : Ga) (hq : fA_X13_plainTongue x0 (n, n, 0, h) = some q) : ∀ l w, CTA l w yX13_plainTongue cX13_plainTongue 2 2 0 0 [.inr (.inr x0)] n h (q.1, q.2.2.2) :=
  CTA_of (L0 := [(0, .inr (.inr x0))]) (by decide) rfl (Nat.le_of_ble_eq_true rfl) (fun κ X => tfA_X13_plainTongue X x0 (n, n, 0, h) q hq)
set_option maxRecDepth 100000 in
theorem tFA_X13_init_414 {κ : Kx} (X : OKA κ cX13_init 2 "StruckWordsModel" "<init>" 3 30 14788) (x0 : Nat) (k439 : Ga → Option Ga) (self : Int32 → Ga → Option Ga) (x1 : Int32) (h : Ga) (q : Ga) (hk439 : ∀ (h : Ga) (q : Ga), k439 h = some q → JA κ 439 [] [] h (q.1, q.2.2.2)) (hself : ∀ (x1 : Int32) (h : Ga) (q : Ga), self x1 h = some q → JA κ 414 [(0, .inr (.inr x0)), (1, .inl x1)] [] h (q.1, q.2.2.2)) (hq : FA_X13_init_414 x0 k439 self x1 h = some q) : JA κ 414 [(0, .inr (.inr x0)), (1, .inl x1)] [] h (q.1, q.2.2.2) := by
  delta FA_X13_init_414 at hq
  refine A_iload_n (pc := 414) X (j := 1) (i := 1) rfl rfl dX13_init_414 ?_
  refine A_sipush (pc := 415) X (v := 437) (by decide) dX13_init_415 ?_
  refine A_icmp_ge (pc := 418) (tgt := 439) X dX13_init_418 rfl (fun c223 => ?_) (fun c223 => ?_)
  · have hq := ite_t hq c223
    refine A_sub [] rfl ?_
    exact hk439 _ _ hq
  · have hq := ite_f hq c223
    refine A_aload_n (pc := 421) X (j := 0) (i := 0) rfl rfl dX13_init_421 ?_
    obtain ⟨g224, hq⟩ := gd hq
    refine A_getR (pc := 422) X (z := 0) g224 fl_13_33 rfl dX13_init_422 ?_
    refine A_ltR hq (fun r225 hq => ?_)
    refine A_iload_n (pc := 425) X (j := 1) (i := 1) rfl rfl dX13_init_425 ?_
    refine A_aload_n (pc := 426) X (j := 0) (i := 0) rfl rfl dX13_init_426 ?_
    obtain ⟨g226, hq⟩ := gd hq
    refine A_getR (pc := 427) X (z := 0) g226 fl_13_37 rfl dX13_init_427 ?_
    refine A_ltR hq (fun r227 hq => ?_)
    refine A_iload_n (pc := 430) X (j := 1) (i := 1) rfl rfl dX13_init_430 ?_
    obtain ⟨g228, hq⟩ := gd hq
    refine A_iaload (pc := 431) X g228 dX13_init_431 ?_
    obtain ⟨g229, hq⟩ := gd hq
    refine A_iastore (pc := 432) X g229 dX13_init_432 ?_
    refine A_ltH hq (fun h230 hq => ?_)
    refine A_iinc (pc := 433) X (j := 1) (v := 1) (L' := [(1, .inl (x1 + 1)), (0, .inr (.inr x0))]) rfl (by decide) (by decide) rfl dX13_init_433 ?_
    refine A_goto (pc := 436) X (tgt := 414) dX13_init_436 rfl ?_
    refine A_sub [1, 0] rfl ?_
    exact hself _ _ _ hq
set_option maxRecDepth 100000 in
theorem tLA_X13_init_414 {κ : Kx} (X : OKA κ cX13_init 2 "StruckWordsModel" "<init>" 3 30 14788) (x0 : Nat) (k439 : Ga → Option Ga) (N : Nat) (x1 : Int32) (h : Ga) (q : Ga) (hk439 : ∀ (h : Ga) (q : Ga), k439 h = some q → JA κ 439 [] [] h (q.1, q.2.2.2)) (hq : itr2 (FA_X13_init_414 x0 k439) N x1 h = some q) : JA κ 414 [(0, .inr (.inr x0)), (1, .inl x1)] [] h (q.1, q.2.2.2) :=
  itr2_ind (fun self hs x1 h q hq => tFA_X13_init_414 X x0 k439 self x1 h q hk439 hs hq) N x1 h q hq
set_option maxRecDepth 100000 in
theorem tfA_X13_init {κ : Kx} (X : OKA κ cX13_init 2 "StruckWordsModel" "<init>" 3 30 14788) (x0 : Nat) (h : Ga) (q : Ga) (hq : fA_X13_init x0 h = some q) : JA κ 0 [(0, .inr (.inr x0))] [] h (q.1, q.2.2.2) := by
  delta fA_X13_init at hq
  refine A_aload_n (pc := 0) X (j := 0) (i := 0) rfl rfl dX13_init_0 ?_
  obtain ⟨g1, hq⟩ := gd hq
  refine A_objInit (pc := 1) X ml_13_27 (by decide) (Nat.le_of_ble_eq_true rfl) dX13_init_1 (of_decide_eq_true g1) ?_
  refine A_aload_n (pc := 4) X (j := 0) (i := 0) rfl rfl dX13_init_4 ?_
  refine A_sipush (pc := 5) X (v := 940) (by decide) dX13_init_5 ?_
  obtain ⟨g2, hq⟩ := gd hq
  refine A_newB (pc := 8) X aK_2 g2 dX13_init_8 ?_
  refine A_ltR hq (fun r3 hq => ?_)
  refine A_ltH hq (fun h4 hq => ?_)
  obtain ⟨g5, hq⟩ := gd hq
  refine A_putF (pc := 10) X g5 fq_13_14 rfl rfl dX13_init_10 ?_
  refine A_ltH hq (fun h6 hq => ?_)
  refine A_aload_n (pc := 13) X (j := 0) (i := 0) rfl rfl dX13_init_13 ?_
  refine A_sipush (pc := 14) X (v := 713) (by decide) dX13_init_14 ?_
  obtain ⟨g7, hq⟩ := gd hq
  refine A_newI (pc := 17) X aK_0 g7 dX13_init_17 ?_
  refine A_ltR hq (fun r8 hq => ?_)
  refine A_ltH hq (fun h9 hq => ?_)
  obtain ⟨g10, hq⟩ := gd hq
  refine A_putF (pc := 19) X g10 fq_13_33 rfl rfl dX13_init_19 ?_
  refine A_ltH hq (fun h11 hq => ?_)
  refine A_aload_n (pc := 22) X (j := 0) (i := 0) rfl rfl dX13_init_22 ?_
  refine A_sipush (pc := 23) X (v := 437) (by decide) dX13_init_23 ?_
  obtain ⟨g12, hq⟩ := gd hq
  refine A_newI (pc := 26) X aK_0 g12 dX13_init_26 ?_
  refine A_ltR hq (fun r13 hq => ?_)
  refine A_ltH hq (fun h14 hq => ?_)
  obtain ⟨g15, hq⟩ := gd hq
  refine A_putF (pc := 28) X g15 fq_13_37 rfl rfl dX13_init_28 ?_
  refine A_ltH hq (fun h16 hq => ?_)
  refine A_aload_n (pc := 31) X (j := 0) (i := 0) rfl rfl dX13_init_31 ?_
  refine A_bipush (pc := 32) X (v := 32) (by decide) dX13_init_32 ?_
  obtain ⟨g17, hq⟩ := gd hq
  refine A_newL (pc := 34) X aK_1 g17 dX13_init_34 ?_
  refine A_ltR hq (fun r18 hq => ?_)
  refine A_ltH hq (fun h19 hq => ?_)
  obtain ⟨g20, hq⟩ := gd hq
  refine A_putF (pc := 36) X g20 fq_13_40 rfl rfl dX13_init_36 ?_
  refine A_ltH hq (fun h21 hq => ?_)
  refine A_aload_n (pc := 39) X (j := 0) (i := 0) rfl rfl dX13_init_39 ?_
  refine A_bipush (pc := 40) X (v := 16) (by decide) dX13_init_40 ?_
  obtain ⟨g22, hq⟩ := gd hq
  refine A_newL (pc := 42) X aK_1 g22 dX13_init_42 ?_
  refine A_ltR hq (fun r23 hq => ?_)
  refine A_ltH hq (fun h24 hq => ?_)
  obtain ⟨g25, hq⟩ := gd hq
  refine A_putF (pc := 44) X g25 fq_13_44 rfl rfl dX13_init_44 ?_
  refine A_ltH hq (fun h26 hq => ?_)
  refine A_aload_n (pc := 47) X (j := 0) (i := 0) rfl rfl dX13_init_47 ?_
  refine A_bipush (pc := 48) X (v := 24) (by decide) dX13_init_48 ?_
  obtain ⟨g27, hq⟩ := gd hq
  refine A_newI (pc := 50) X aK_0 g27 dX13_init_50 ?_
  refine A_ltR hq (fun r28 hq => ?_)
  refine A_ltH hq (fun h29 hq => ?_)
  obtain ⟨g30, hq⟩ := gd hq
  refine A_putF (pc := 52) X g30 fq_13_47 rfl rfl dX13_init_52 ?_
  refine A_ltH hq (fun h31 hq => ?_)
  refine A_aload_n (pc := 55) X (j := 0) (i := 0) rfl rfl dX13_init_55 ?_
  refine A_bipush (pc := 56) X (v := 24) (by decide) dX13_init_56 ?_
  obtain ⟨g32, hq⟩ := gd hq
  refine A_newI (pc := 58) X aK_0 g32 dX13_init_58 ?_
  refine A_ltR hq (fun r33 hq => ?_)
  refine A_ltH hq (fun h34 hq => ?_)
  obtain ⟨g35, hq⟩ := gd hq
  refine A_putF (pc := 60) X g35 fq_13_50 rfl rfl dX13_init_60 ?_
  refine A_ltH hq (fun h36 hq => ?_)
  refine A_aload_n (pc := 63) X (j := 0) (i := 0) rfl rfl dX13_init_63 ?_
  refine A_bipush (pc := 64) X (v := 24) (by decide) dX13_init_64 ?_
  obtain ⟨g37, hq⟩ := gd hq
  refine A_newI (pc := 66) X aK_0 g37 dX13_init_66 ?_
  refine A_ltR hq (fun r38 hq => ?_)
  refine A_ltH hq (fun h39 hq => ?_)
  obtain ⟨g40, hq⟩ := gd hq
  refine A_putF (pc := 68) X g40 fq_13_53 rfl rfl dX13_init_68 ?_
  refine A_ltH hq (fun h41 hq => ?_)
  refine A_aload_n (pc := 71) X (j := 0) (i := 0) rfl rfl dX13_init_71 ?_
  refine A_sipush (pc := 72) X (v := 10240) (by decide) dX13_init_72 ?_
  obtain ⟨g42, hq⟩ := gd hq
  refine A_newI (pc := 75) X aK_0 g42 dX13_init_75 ?_
  refine A_ltR hq (fun r43 hq => ?_)
  refine A_ltH hq (fun h44 hq => ?_)
  obtain ⟨g45, hq⟩ := gd hq
  refine A_putF (pc := 77) X g45 fq_13_56 rfl rfl dX13_init_77 ?_
  refine A_ltH hq (fun h46 hq => ?_)
  refine A_aload_n (pc := 80) X (j := 0) (i := 0) rfl rfl dX13_init_80 ?_
  refine A_bipush (pc := 81) X (v := 40) (by decide) dX13_init_81 ?_
  obtain ⟨g47, hq⟩ := gd hq
  refine A_newI (pc := 83) X aK_0 g47 dX13_init_83 ?_
  refine A_ltR hq (fun r48 hq => ?_)
  refine A_ltH hq (fun h49 hq => ?_)
  obtain ⟨g50, hq⟩ := gd hq
  refine A_putF (pc := 85) X g50 fq_13_59 rfl rfl dX13_init_85 ?_
  refine A_ltH hq (fun h51 hq => ?_)
  refine A_aload_n (pc := 88) X (j := 0) (i := 0) rfl rfl dX13_init_88 ?_
  refine A_bipush (pc := 89) X (v := 25) (by decide) dX13_init_89 ?_
  obtain ⟨g52, hq⟩ := gd hq
  refine A_newI (pc := 91) X aK_0 g52 dX13_init_91 ?_
  refine A_ltR hq (fun r53 hq => ?_)
  refine A_ltH hq (fun h54 hq => ?_)
  obtain ⟨g55, hq⟩ := gd hq
  refine A_putF (pc := 93) X g55 fq_13_62 rfl rfl dX13_init_93 ?_
  refine A_ltH hq (fun h56 hq => ?_)
  refine A_aload_n (pc := 96) X (j := 0) (i := 0) rfl rfl dX13_init_96 ?_
  refine A_iconst (pc := 97) X (v := 1) (by decide) dX13_init_97 ?_
  obtain ⟨g57, hq⟩ := gd hq
  refine A_putZ (pc := 98) X (by decide) g57 fp_13_65 rfl dX13_init_98 ?_
  refine A_ltH hq (fun h58 hq => ?_)
  refine A_aload_n (pc := 101) X (j := 0) (i := 0) rfl rfl dX13_init_101 ?_
  refine A_bipush (pc := 102) X (v := 125) (by decide) dX13_init_102 ?_
  obtain ⟨g59, hq⟩ := gd hq
  refine A_newL (pc := 104) X aK_1 g59 dX13_init_104 ?_
  refine A_ltR hq (fun r60 hq => ?_)
  refine A_ltH hq (fun h61 hq => ?_)
  obtain ⟨g62, hq⟩ := gd hq
  refine A_putF (pc := 106) X g62 fq_13_69 rfl rfl dX13_init_106 ?_
  refine A_ltH hq (fun h63 hq => ?_)
  refine A_aload_n (pc := 109) X (j := 0) (i := 0) rfl rfl dX13_init_109 ?_
  refine A_bipush (pc := 110) X (v := 6) (by decide) dX13_init_110 ?_
  obtain ⟨g64, hq⟩ := gd hq
  refine A_newI (pc := 112) X aK_0 g64 dX13_init_112 ?_
  refine A_ltR hq (fun r65 hq => ?_)
  refine A_ltH hq (fun h66 hq => ?_)
  obtain ⟨g67, hq⟩ := gd hq
  refine A_putF (pc := 114) X g67 fq_13_72 rfl rfl dX13_init_114 ?_
  refine A_ltH hq (fun h68 hq => ?_)
  refine A_aload_n (pc := 117) X (j := 0) (i := 0) rfl rfl dX13_init_117 ?_
  refine A_sipush (pc := 118) X (v := 144) (by decide) dX13_init_118 ?_
  obtain ⟨g69, hq⟩ := gd hq
  refine A_newI (pc := 121) X aK_0 g69 dX13_init_121 ?_
  refine A_ltR hq (fun r70 hq => ?_)
  refine A_ltH hq (fun h71 hq => ?_)
  obtain ⟨g72, hq⟩ := gd hq
  refine A_putF (pc := 123) X g72 fq_13_75 rfl rfl dX13_init_123 ?_
  refine A_ltH hq (fun h73 hq => ?_)
  refine A_aload_n (pc := 126) X (j := 0) (i := 0) rfl rfl dX13_init_126 ?_
  refine A_sipush (pc := 127) X (v := 145) (by decide) dX13_init_127 ?_
  obtain ⟨g74, hq⟩ := gd hq
  refine A_newL (pc := 130) X aK_1 g74 dX13_init_130 ?_
  refine A_ltR hq (fun r75 hq => ?_)
  refine A_ltH hq (fun h76 hq => ?_)
  obtain ⟨g77, hq⟩ := gd hq
  refine A_putF (pc := 132) X g77 fq_13_78 rfl rfl dX13_init_132 ?_
  refine A_ltH hq (fun h78 hq => ?_)
  refine A_aload_n (pc := 135) X (j := 0) (i := 0) rfl rfl dX13_init_135 ?_
  refine A_bipush (pc := 136) X (v := 84) (by decide) dX13_init_136 ?_
  obtain ⟨g79, hq⟩ := gd hq
  refine A_newL (pc := 138) X aK_1 g79 dX13_init_138 ?_
  refine A_ltR hq (fun r80 hq => ?_)
  refine A_ltH hq (fun h81 hq => ?_)
  obtain ⟨g82, hq⟩ := gd hq
  refine A_putF (pc := 140) X g82 fq_13_81 rfl rfl dX13_init_140 ?_
  refine A_ltH hq (fun h83 hq => ?_)
  refine A_aload_n (pc := 143) X (j := 0) (i := 0) rfl rfl dX13_init_143 ?_
  refine A_bipush (pc := 144) X (v := 6) (by decide) dX13_init_144 ?_
  obtain ⟨g84, hq⟩ := gd hq
  refine A_newI (pc := 146) X aK_0 g84 dX13_init_146 ?_
  refine A_ltR hq (fun r85 hq => ?_)
  refine A_ltH hq (fun h86 hq => ?_)
  obtain ⟨g87, hq⟩ := gd hq
  refine A_putF (pc := 148) X g87 fq_13_84 rfl rfl dX13_init_148 ?_
  refine A_ltH hq (fun h88 hq => ?_)
  refine A_aload_n (pc := 151) X (j := 0) (i := 0) rfl rfl dX13_init_151 ?_
  refine A_bipush (pc := 152) X (v := 14) (by decide) dX13_init_152 ?_
  obtain ⟨g89, hq⟩ := gd hq
  refine A_newI (pc := 154) X aK_0 g89 dX13_init_154 ?_
  refine A_ltR hq (fun r90 hq => ?_)
  refine A_ltH hq (fun h91 hq => ?_)
  obtain ⟨g92, hq⟩ := gd hq
  refine A_putF (pc := 156) X g92 fq_13_87 rfl rfl dX13_init_156 ?_
  refine A_ltH hq (fun h93 hq => ?_)
  refine A_aload_n (pc := 159) X (j := 0) (i := 0) rfl rfl dX13_init_159 ?_
  refine A_bipush (pc := 160) X (v := 14) (by decide) dX13_init_160 ?_
  obtain ⟨g94, hq⟩ := gd hq
  refine A_newI (pc := 162) X aK_0 g94 dX13_init_162 ?_
  refine A_ltR hq (fun r95 hq => ?_)
  refine A_ltH hq (fun h96 hq => ?_)
  obtain ⟨g97, hq⟩ := gd hq
  refine A_putF (pc := 164) X g97 fq_13_90 rfl rfl dX13_init_164 ?_
  refine A_ltH hq (fun h98 hq => ?_)
  refine A_aload_n (pc := 167) X (j := 0) (i := 0) rfl rfl dX13_init_167 ?_
  refine A_bipush (pc := 168) X (v := 84) (by decide) dX13_init_168 ?_
  obtain ⟨g99, hq⟩ := gd hq
  refine A_newI (pc := 170) X aK_0 g99 dX13_init_170 ?_
  refine A_ltR hq (fun r100 hq => ?_)
  refine A_ltH hq (fun h101 hq => ?_)
  obtain ⟨g102, hq⟩ := gd hq
  refine A_putF (pc := 172) X g102 fq_13_93 rfl rfl dX13_init_172 ?_
  refine A_ltH hq (fun h103 hq => ?_)
  refine A_aload_n (pc := 175) X (j := 0) (i := 0) rfl rfl dX13_init_175 ?_
  refine A_bipush (pc := 176) X (v := 24) (by decide) dX13_init_176 ?_
  obtain ⟨g104, hq⟩ := gd hq
  refine A_newI (pc := 178) X aK_0 g104 dX13_init_178 ?_
  refine A_ltR hq (fun r105 hq => ?_)
  refine A_ltH hq (fun h106 hq => ?_)
  obtain ⟨g107, hq⟩ := gd hq
  refine A_putF (pc := 180) X g107 fq_13_96 rfl rfl dX13_init_180 ?_
  refine A_ltH hq (fun h108 hq => ?_)
  refine A_aload_n (pc := 183) X (j := 0) (i := 0) rfl rfl dX13_init_183 ?_
  refine A_bipush (pc := 184) X (v := 15) (by decide) dX13_init_184 ?_
  obtain ⟨g109, hq⟩ := gd hq
  refine A_newI (pc := 186) X aK_0 g109 dX13_init_186 ?_
  refine A_ltR hq (fun r110 hq => ?_)
  refine A_ltH hq (fun h111 hq => ?_)
  obtain ⟨g112, hq⟩ := gd hq
  refine A_putF (pc := 188) X g112 fq_13_99 rfl rfl dX13_init_188 ?_
  refine A_ltH hq (fun h113 hq => ?_)
  refine A_aload_n (pc := 191) X (j := 0) (i := 0) rfl rfl dX13_init_191 ?_
  refine A_bipush (pc := 192) X (v := 12) (by decide) dX13_init_192 ?_
  obtain ⟨g114, hq⟩ := gd hq
  refine A_newI (pc := 194) X aK_0 g114 dX13_init_194 ?_
  refine A_ltR hq (fun r115 hq => ?_)
  refine A_ltH hq (fun h116 hq => ?_)
  obtain ⟨g117, hq⟩ := gd hq
  refine A_putF (pc := 196) X g117 fq_13_102 rfl rfl dX13_init_196 ?_
  refine A_ltH hq (fun h118 hq => ?_)
  refine A_aload_n (pc := 199) X (j := 0) (i := 0) rfl rfl dX13_init_199 ?_
  refine A_iconst (pc := 200) X (v := 3) (by decide) dX13_init_200 ?_
  obtain ⟨g119, hq⟩ := gd hq
  refine A_newI (pc := 201) X aK_0 g119 dX13_init_201 ?_
  refine A_ltR hq (fun r120 hq => ?_)
  refine A_ltH hq (fun h121 hq => ?_)
  obtain ⟨g122, hq⟩ := gd hq
  refine A_putF (pc := 203) X g122 fq_13_105 rfl rfl dX13_init_203 ?_
  refine A_ltH hq (fun h123 hq => ?_)
  refine A_aload_n (pc := 206) X (j := 0) (i := 0) rfl rfl dX13_init_206 ?_
  refine A_bipush (pc := 207) X (v := 12) (by decide) dX13_init_207 ?_
  obtain ⟨g124, hq⟩ := gd hq
  refine A_newI (pc := 209) X aK_0 g124 dX13_init_209 ?_
  refine A_ltR hq (fun r125 hq => ?_)
  refine A_ltH hq (fun h126 hq => ?_)
  obtain ⟨g127, hq⟩ := gd hq
  refine A_putF (pc := 211) X g127 fq_13_108 rfl rfl dX13_init_211 ?_
  refine A_ltH hq (fun h128 hq => ?_)
  refine A_aload_n (pc := 214) X (j := 0) (i := 0) rfl rfl dX13_init_214 ?_
  refine A_bipush (pc := 215) X (v := 60) (by decide) dX13_init_215 ?_
  obtain ⟨g129, hq⟩ := gd hq
  refine A_newL (pc := 217) X aK_1 g129 dX13_init_217 ?_
  refine A_ltR hq (fun r130 hq => ?_)
  refine A_ltH hq (fun h131 hq => ?_)
  obtain ⟨g132, hq⟩ := gd hq
  refine A_putF (pc := 219) X g132 fq_13_111 rfl rfl dX13_init_219 ?_
  refine A_ltH hq (fun h133 hq => ?_)
  refine A_aload_n (pc := 222) X (j := 0) (i := 0) rfl rfl dX13_init_222 ?_
  refine A_bipush (pc := 223) X (v := 65) (by decide) dX13_init_223 ?_
  obtain ⟨g134, hq⟩ := gd hq
  refine A_newL (pc := 225) X aK_1 g134 dX13_init_225 ?_
  refine A_ltR hq (fun r135 hq => ?_)
  refine A_ltH hq (fun h136 hq => ?_)
  obtain ⟨g137, hq⟩ := gd hq
  refine A_putF (pc := 227) X g137 fq_13_114 rfl rfl dX13_init_227 ?_
  refine A_ltH hq (fun h138 hq => ?_)
  refine A_aload_n (pc := 230) X (j := 0) (i := 0) rfl rfl dX13_init_230 ?_
  refine A_sipush (pc := 231) X (v := 1426) (by decide) dX13_init_231 ?_
  obtain ⟨g139, hq⟩ := gd hq
  refine A_newI (pc := 234) X aK_0 g139 dX13_init_234 ?_
  refine A_ltR hq (fun r140 hq => ?_)
  refine A_ltH hq (fun h141 hq => ?_)
  obtain ⟨g142, hq⟩ := gd hq
  refine A_putF (pc := 236) X g142 fq_13_117 rfl rfl dX13_init_236 ?_
  refine A_ltH hq (fun h143 hq => ?_)
  refine A_aload_n (pc := 239) X (j := 0) (i := 0) rfl rfl dX13_init_239 ?_
  refine A_bipush (pc := 240) X (v := 32) (by decide) dX13_init_240 ?_
  obtain ⟨g144, hq⟩ := gd hq
  refine A_newL (pc := 242) X aK_1 g144 dX13_init_242 ?_
  refine A_ltR hq (fun r145 hq => ?_)
  refine A_ltH hq (fun h146 hq => ?_)
  obtain ⟨g147, hq⟩ := gd hq
  refine A_putF (pc := 244) X g147 fq_13_120 rfl rfl dX13_init_244 ?_
  refine A_ltH hq (fun h148 hq => ?_)
  refine A_aload_n (pc := 247) X (j := 0) (i := 0) rfl rfl dX13_init_247 ?_
  refine A_iconst (pc := 248) X (v := 2) (by decide) dX13_init_248 ?_
  obtain ⟨g149, hq⟩ := gd hq
  refine A_newZ (pc := 249) X aK_3 g149 dX13_init_249 ?_
  refine A_ltR hq (fun r150 hq => ?_)
  refine A_ltH hq (fun h151 hq => ?_)
  obtain ⟨g152, hq⟩ := gd hq
  refine A_putF (pc := 251) X g152 fq_13_123 rfl rfl dX13_init_251 ?_
  refine A_ltH hq (fun h153 hq => ?_)
  refine A_aload_n (pc := 254) X (j := 0) (i := 0) rfl rfl dX13_init_254 ?_
  obtain ⟨g154, hq⟩ := gd hq
  refine A_getR (pc := 255) X (z := 0) g154 fl_13_44 rfl dX13_init_255 ?_
  refine A_ltR hq (fun r155 hq => ?_)
  refine A_iconst (pc := 258) X (v := 0) (by decide) dX13_init_258 ?_
  refine A_ldc2 (pc := 259) X cl_13_127 dX13_init_259 ?_
  obtain ⟨g156, hq⟩ := gd hq
  refine A_lastore (pc := 262) X g156 dX13_init_262 ?_
  refine A_ltH hq (fun h157 hq => ?_)
  refine A_aload_n (pc := 263) X (j := 0) (i := 0) rfl rfl dX13_init_263 ?_
  obtain ⟨g158, hq⟩ := gd hq
  refine A_getR (pc := 264) X (z := 0) g158 fl_13_44 rfl dX13_init_264 ?_
  refine A_ltR hq (fun r159 hq => ?_)
  refine A_iconst (pc := 267) X (v := 1) (by decide) dX13_init_267 ?_
  refine A_ldc2 (pc := 268) X cl_13_129 dX13_init_268 ?_
  obtain ⟨g160, hq⟩ := gd hq
  refine A_lastore (pc := 271) X g160 dX13_init_271 ?_
  refine A_ltH hq (fun h161 hq => ?_)
  refine A_aload_n (pc := 272) X (j := 0) (i := 0) rfl rfl dX13_init_272 ?_
  obtain ⟨g162, hq⟩ := gd hq
  refine A_getR (pc := 273) X (z := 0) g162 fl_13_44 rfl dX13_init_273 ?_
  refine A_ltR hq (fun r163 hq => ?_)
  refine A_iconst (pc := 276) X (v := 2) (by decide) dX13_init_276 ?_
  refine A_ldc2 (pc := 277) X cl_13_131 dX13_init_277 ?_
  obtain ⟨g164, hq⟩ := gd hq
  refine A_lastore (pc := 280) X g164 dX13_init_280 ?_
  refine A_ltH hq (fun h165 hq => ?_)
  refine A_aload_n (pc := 281) X (j := 0) (i := 0) rfl rfl dX13_init_281 ?_
  obtain ⟨g166, hq⟩ := gd hq
  refine A_getR (pc := 282) X (z := 0) g166 fl_13_44 rfl dX13_init_282 ?_
  refine A_ltR hq (fun r167 hq => ?_)
  refine A_iconst (pc := 285) X (v := 3) (by decide) dX13_init_285 ?_
  refine A_ldc2 (pc := 286) X cl_13_133 dX13_init_286 ?_
  obtain ⟨g168, hq⟩ := gd hq
  refine A_lastore (pc := 289) X g168 dX13_init_289 ?_
  refine A_ltH hq (fun h169 hq => ?_)
  refine A_aload_n (pc := 290) X (j := 0) (i := 0) rfl rfl dX13_init_290 ?_
  obtain ⟨g170, hq⟩ := gd hq
  refine A_getR (pc := 291) X (z := 0) g170 fl_13_44 rfl dX13_init_291 ?_
  refine A_ltR hq (fun r171 hq => ?_)
  refine A_iconst (pc := 294) X (v := 4) (by decide) dX13_init_294 ?_
  refine A_ldc2 (pc := 295) X cl_13_135 dX13_init_295 ?_
  obtain ⟨g172, hq⟩ := gd hq
  refine A_lastore (pc := 298) X g172 dX13_init_298 ?_
  refine A_ltH hq (fun h173 hq => ?_)
  refine A_aload_n (pc := 299) X (j := 0) (i := 0) rfl rfl dX13_init_299 ?_
  obtain ⟨g174, hq⟩ := gd hq
  refine A_getR (pc := 300) X (z := 0) g174 fl_13_44 rfl dX13_init_300 ?_
  refine A_ltR hq (fun r175 hq => ?_)
  refine A_iconst (pc := 303) X (v := 5) (by decide) dX13_init_303 ?_
  refine A_ldc2 (pc := 304) X cl_13_137 dX13_init_304 ?_
  obtain ⟨g176, hq⟩ := gd hq
  refine A_lastore (pc := 307) X g176 dX13_init_307 ?_
  refine A_ltH hq (fun h177 hq => ?_)
  refine A_aload_n (pc := 308) X (j := 0) (i := 0) rfl rfl dX13_init_308 ?_
  obtain ⟨g178, hq⟩ := gd hq
  refine A_getR (pc := 309) X (z := 0) g178 fl_13_44 rfl dX13_init_309 ?_
  refine A_ltR hq (fun r179 hq => ?_)
  refine A_bipush (pc := 312) X (v := 6) (by decide) dX13_init_312 ?_
  refine A_ldc2 (pc := 314) X cl_13_139 dX13_init_314 ?_
  obtain ⟨g180, hq⟩ := gd hq
  refine A_lastore (pc := 317) X g180 dX13_init_317 ?_
  refine A_ltH hq (fun h181 hq => ?_)
  refine A_aload_n (pc := 318) X (j := 0) (i := 0) rfl rfl dX13_init_318 ?_
  obtain ⟨g182, hq⟩ := gd hq
  refine A_getR (pc := 319) X (z := 0) g182 fl_13_44 rfl dX13_init_319 ?_
  refine A_ltR hq (fun r183 hq => ?_)
  refine A_bipush (pc := 322) X (v := 7) (by decide) dX13_init_322 ?_
  refine A_ldc2 (pc := 324) X cl_13_141 dX13_init_324 ?_
  obtain ⟨g184, hq⟩ := gd hq
  refine A_lastore (pc := 327) X g184 dX13_init_327 ?_
  refine A_ltH hq (fun h185 hq => ?_)
  refine A_aload_n (pc := 328) X (j := 0) (i := 0) rfl rfl dX13_init_328 ?_
  obtain ⟨g186, hq⟩ := gd hq
  refine A_getR (pc := 329) X (z := 0) g186 fl_13_44 rfl dX13_init_329 ?_
  refine A_ltR hq (fun r187 hq => ?_)
  refine A_bipush (pc := 332) X (v := 8) (by decide) dX13_init_332 ?_
  refine A_ldc2 (pc := 334) X cl_13_143 dX13_init_334 ?_
  obtain ⟨g188, hq⟩ := gd hq
  refine A_lastore (pc := 337) X g188 dX13_init_337 ?_
  refine A_ltH hq (fun h189 hq => ?_)
  refine A_aload_n (pc := 338) X (j := 0) (i := 0) rfl rfl dX13_init_338 ?_
  obtain ⟨g190, hq⟩ := gd hq
  refine A_getR (pc := 339) X (z := 0) g190 fl_13_44 rfl dX13_init_339 ?_
  refine A_ltR hq (fun r191 hq => ?_)
  refine A_bipush (pc := 342) X (v := 9) (by decide) dX13_init_342 ?_
  refine A_ldc2 (pc := 344) X cl_13_145 dX13_init_344 ?_
  obtain ⟨g192, hq⟩ := gd hq
  refine A_lastore (pc := 347) X g192 dX13_init_347 ?_
  refine A_ltH hq (fun h193 hq => ?_)
  refine A_aload_n (pc := 348) X (j := 0) (i := 0) rfl rfl dX13_init_348 ?_
  obtain ⟨g194, hq⟩ := gd hq
  refine A_getR (pc := 349) X (z := 0) g194 fl_13_44 rfl dX13_init_349 ?_
  refine A_ltR hq (fun r195 hq => ?_)
  refine A_bipush (pc := 352) X (v := 10) (by decide) dX13_init_352 ?_
  refine A_ldc2 (pc := 354) X cl_13_147 dX13_init_354 ?_
  obtain ⟨g196, hq⟩ := gd hq
  refine A_lastore (pc := 357) X g196 dX13_init_357 ?_
  refine A_ltH hq (fun h197 hq => ?_)
  refine A_aload_n (pc := 358) X (j := 0) (i := 0) rfl rfl dX13_init_358 ?_
  obtain ⟨g198, hq⟩ := gd hq
  refine A_getR (pc := 359) X (z := 0) g198 fl_13_44 rfl dX13_init_359 ?_
  refine A_ltR hq (fun r199 hq => ?_)
  refine A_bipush (pc := 362) X (v := 11) (by decide) dX13_init_362 ?_
  refine A_ldc2 (pc := 364) X cl_13_149 dX13_init_364 ?_
  obtain ⟨g200, hq⟩ := gd hq
  refine A_lastore (pc := 367) X g200 dX13_init_367 ?_
  refine A_ltH hq (fun h201 hq => ?_)
  refine A_aload_n (pc := 368) X (j := 0) (i := 0) rfl rfl dX13_init_368 ?_
  obtain ⟨g202, hq⟩ := gd hq
  refine A_getR (pc := 369) X (z := 0) g202 fl_13_44 rfl dX13_init_369 ?_
  refine A_ltR hq (fun r203 hq => ?_)
  refine A_bipush (pc := 372) X (v := 12) (by decide) dX13_init_372 ?_
  refine A_ldc2 (pc := 374) X cl_13_151 dX13_init_374 ?_
  obtain ⟨g204, hq⟩ := gd hq
  refine A_lastore (pc := 377) X g204 dX13_init_377 ?_
  refine A_ltH hq (fun h205 hq => ?_)
  refine A_aload_n (pc := 378) X (j := 0) (i := 0) rfl rfl dX13_init_378 ?_
  obtain ⟨g206, hq⟩ := gd hq
  refine A_getR (pc := 379) X (z := 0) g206 fl_13_44 rfl dX13_init_379 ?_
  refine A_ltR hq (fun r207 hq => ?_)
  refine A_bipush (pc := 382) X (v := 13) (by decide) dX13_init_382 ?_
  refine A_ldc2 (pc := 384) X cl_13_153 dX13_init_384 ?_
  obtain ⟨g208, hq⟩ := gd hq
  refine A_lastore (pc := 387) X g208 dX13_init_387 ?_
  refine A_ltH hq (fun h209 hq => ?_)
  refine A_aload_n (pc := 388) X (j := 0) (i := 0) rfl rfl dX13_init_388 ?_
  obtain ⟨g210, hq⟩ := gd hq
  refine A_getR (pc := 389) X (z := 0) g210 fl_13_44 rfl dX13_init_389 ?_
  refine A_ltR hq (fun r211 hq => ?_)
  refine A_bipush (pc := 392) X (v := 14) (by decide) dX13_init_392 ?_
  refine A_ldc2 (pc := 394) X cl_13_155 dX13_init_394 ?_
  obtain ⟨g212, hq⟩ := gd hq
  refine A_lastore (pc := 397) X g212 dX13_init_397 ?_
  refine A_ltH hq (fun h213 hq => ?_)
  refine A_aload_n (pc := 398) X (j := 0) (i := 0) rfl rfl dX13_init_398 ?_
  obtain ⟨g214, hq⟩ := gd hq
  refine A_getR (pc := 399) X (z := 0) g214 fl_13_44 rfl dX13_init_399 ?_
  refine A_ltR hq (fun r215 hq => ?_)
  refine A_bipush (pc := 402) X (v := 15) (by decide) dX13_init_402 ?_
  refine A_ldc2 (pc := 404) X cl_13_157 dX13_init_404 ?_
  obtain ⟨g216, hq⟩ := gd hq
  refine A_lastore (pc := 407) X g216 dX13_init_407 ?_
  refine A_ltH hq (fun h217 hq => ?_)
  refine A_aload_n (pc := 408) X (j := 0) (i := 0) rfl rfl dX13_init_408 ?_
  obtain ⟨g222, hq⟩ := gd hq
  obtain ⟨g219, q220, hc, e221, hq⟩ := bna_e hq
  refine A_callV (pc := 409) (as := []) (st := []) (c1 := 0) (s1 := 0) (ky := 2) X dX13_init_409 ca_X13_plainTongue ci_X13_plainTongue cs_X13_plainTongue ml_13_159 (by decide) g222 rfl rfl (mA_X13_plainTongue _ _ _ _ hc) rfl rfl (Nat.le_of_ble_eq_true rfl) g219 e221 ?_
  revert hq
  generalize hgh218 : ((q220.1, h217.2.1, h217.2.2.1 + 0, q220.2.2.2) : Ga) = h218
  intro hq
  refine A_iconst (pc := 412) X (v := 0) (by decide) dX13_init_412 ?_
  refine A_istore_n (pc := 413) X (L' := [(1, .inl 0), (0, .inr (.inr x0))]) (i := 1) rfl (by decide) rfl dX13_init_413 ?_
  refine A_sub [1, 0] rfl ?_
  refine tLA_X13_init_414 X _ _ N0 _ _ _ ?_ hq
  · intro h231 q hq
    obtain ⟨g232, hq⟩ := gd hq
    obtain rfl := Option.some.inj hq
    exact A_vret (pc := 439) X g232 dX13_init_439
set_option maxRecDepth 100000 in
theorem mA_X13_init (x0 : Nat) (n : Nat) (h : Hp) (q : Ga) (hq : fA_X13_init x0 (n, n, 0, h) = some q) : ∀ l w, CTA l w yX13_init cX13_init 2 3 30 14788 [.inr (.inr x0)] n h (q.1, q.2.2.2) :=
  CTA_of (L0 := [(0, .inr (.inr x0))]) (by decide) rfl (Nat.le_of_ble_eq_true rfl) (fun κ X => tfA_X13_init X x0 (n, n, 0, h) q hq)
