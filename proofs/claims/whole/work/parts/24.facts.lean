theorem ly1 : lay 1 = some (.inl 10) := rfl
theorem ly2 : lay 2 = some (.inl 5) := rfl
theorem ly3 : lay 3 = some (.inr (0, 940)) := rfl
theorem ly4 : lay 4 = some (.inl 4) := rfl
theorem ly5 : lay 5 = some (.inl 7) := rfl
theorem ly6 : lay 6 = some (.inl 3) := rfl
theorem ly7 : lay 7 = some (.inl 8) := rfl
theorem ly8 : lay 8 = some (.inr (0, 16)) := rfl
theorem ly9 : lay 9 = some (.inl 0) := rfl
theorem ly10 : lay 10 = some (.inr (0, 6)) := rfl
theorem ly11 : lay 11 = some (.inr (1, 5)) := rfl
theorem ly12 : lay 12 = some (.inr (0, 8)) := rfl
theorem ly13 : lay 13 = some (.inr (0, 8)) := rfl
theorem ly14 : lay 14 = some (.inr (0, 8)) := rfl
theorem ly15 : lay 15 = some (.inr (0, 8)) := rfl
theorem ly16 : lay 16 = some (.inr (0, 320)) := rfl
theorem ly17 : lay 17 = some (.inr (0, 1280)) := rfl
theorem ly18 : lay 18 = some (.inl 5) := rfl
theorem ly19 : lay 19 = some (.inr (0, 24)) := rfl
theorem ly20 : lay 20 = some (.inr (4, 10)) := rfl
theorem ly21 : lay 21 = some (.inl 5) := rfl
theorem ly22 : lay 22 = some (.inr (0, 24)) := rfl
theorem ly23 : lay 23 = some (.inl 5) := rfl
theorem ly24 : lay 24 = some (.inr (0, 24)) := rfl
theorem ly25 : lay 25 = some (.inl 5) := rfl
theorem ly26 : lay 26 = some (.inr (0, 24)) := rfl
theorem ly27 : lay 27 = some (.inl 5) := rfl
theorem ly28 : lay 28 = some (.inr (0, 24)) := rfl
theorem ly29 : lay 29 = some (.inl 5) := rfl
theorem ly30 : lay 30 = some (.inr (0, 24)) := rfl
theorem ly31 : lay 31 = some (.inl 5) := rfl
theorem ly32 : lay 32 = some (.inr (0, 24)) := rfl
theorem ly33 : lay 33 = some (.inl 5) := rfl
theorem ly34 : lay 34 = some (.inr (0, 24)) := rfl
theorem ly35 : lay 35 = some (.inl 5) := rfl
theorem ly36 : lay 36 = some (.inr (0, 24)) := rfl
theorem ly37 : lay 37 = some (.inl 5) := rfl
theorem ly38 : lay 38 = some (.inr (0, 24)) := rfl
theorem ly39 : lay 39 = some (.inl 5) := rfl
theorem ly40 : lay 40 = some (.inr (0, 24)) := rfl
theorem ly41 : lay 41 = some (.inr (5, 2)) := rfl
theorem ly42 : lay 42 = some (.inl 3) := rfl
theorem ly43 : lay 43 = some (.inl 8) := rfl
theorem ly44 : lay 44 = some (.inr (0, 16)) := rfl
theorem ly45 : lay 45 = some (.inl 0) := rfl
theorem ly46 : lay 46 = some (.inr (0, 6)) := rfl
theorem ly47 : lay 47 = some (.inr (1, 5)) := rfl
theorem ly48 : lay 48 = some (.inr (0, 8)) := rfl
theorem ly49 : lay 49 = some (.inr (0, 8)) := rfl
theorem ly50 : lay 50 = some (.inr (0, 8)) := rfl
theorem ly51 : lay 51 = some (.inr (0, 8)) := rfl
theorem ly52 : lay 52 = some (.inr (0, 320)) := rfl
theorem ly53 : lay 53 = some (.inr (0, 1280)) := rfl
theorem ly54 : lay 54 = some (.inl 5) := rfl
theorem ly55 : lay 55 = some (.inr (0, 24)) := rfl
theorem ly56 : lay 56 = some (.inr (4, 10)) := rfl
theorem ly57 : lay 57 = some (.inl 5) := rfl
theorem ly58 : lay 58 = some (.inr (0, 24)) := rfl
theorem ly59 : lay 59 = some (.inl 5) := rfl
theorem ly60 : lay 60 = some (.inr (0, 24)) := rfl
theorem ly61 : lay 61 = some (.inl 5) := rfl
theorem ly62 : lay 62 = some (.inr (0, 24)) := rfl
theorem ly63 : lay 63 = some (.inl 5) := rfl
theorem ly64 : lay 64 = some (.inr (0, 24)) := rfl
theorem ly65 : lay 65 = some (.inl 5) := rfl
theorem ly66 : lay 66 = some (.inr (0, 24)) := rfl
theorem ly67 : lay 67 = some (.inl 5) := rfl
theorem ly68 : lay 68 = some (.inr (0, 24)) := rfl
theorem ly69 : lay 69 = some (.inl 5) := rfl
theorem ly70 : lay 70 = some (.inr (0, 24)) := rfl
theorem ly71 : lay 71 = some (.inl 5) := rfl
theorem ly72 : lay 72 = some (.inr (0, 24)) := rfl
theorem ly73 : lay 73 = some (.inl 5) := rfl
theorem ly74 : lay 74 = some (.inr (0, 24)) := rfl
theorem ly75 : lay 75 = some (.inl 5) := rfl
theorem ly76 : lay 76 = some (.inr (0, 24)) := rfl
theorem ly77 : lay 77 = some (.inl 3) := rfl
theorem ly78 : lay 78 = some (.inl 8) := rfl
theorem ly79 : lay 79 = some (.inr (0, 16)) := rfl
theorem ly80 : lay 80 = some (.inl 0) := rfl
theorem ly81 : lay 81 = some (.inr (0, 6)) := rfl
theorem ly82 : lay 82 = some (.inr (1, 5)) := rfl
theorem ly83 : lay 83 = some (.inr (0, 8)) := rfl
theorem ly84 : lay 84 = some (.inr (0, 8)) := rfl
theorem ly85 : lay 85 = some (.inr (0, 8)) := rfl
theorem ly86 : lay 86 = some (.inr (0, 8)) := rfl
theorem ly87 : lay 87 = some (.inr (0, 320)) := rfl
theorem ly88 : lay 88 = some (.inr (0, 1280)) := rfl
theorem ly89 : lay 89 = some (.inl 5) := rfl
theorem ly90 : lay 90 = some (.inr (0, 24)) := rfl
theorem ly91 : lay 91 = some (.inr (4, 10)) := rfl
theorem ly92 : lay 92 = some (.inl 5) := rfl
theorem ly93 : lay 93 = some (.inr (0, 24)) := rfl
theorem ly94 : lay 94 = some (.inl 5) := rfl
theorem ly95 : lay 95 = some (.inr (0, 24)) := rfl
theorem ly96 : lay 96 = some (.inl 5) := rfl
theorem ly97 : lay 97 = some (.inr (0, 24)) := rfl
theorem ly98 : lay 98 = some (.inl 5) := rfl
theorem ly99 : lay 99 = some (.inr (0, 24)) := rfl
theorem ly100 : lay 100 = some (.inl 5) := rfl
theorem ly101 : lay 101 = some (.inr (0, 24)) := rfl
theorem ly102 : lay 102 = some (.inl 5) := rfl
theorem ly103 : lay 103 = some (.inr (0, 24)) := rfl
theorem ly104 : lay 104 = some (.inl 5) := rfl
theorem ly105 : lay 105 = some (.inr (0, 24)) := rfl
theorem ly106 : lay 106 = some (.inl 5) := rfl
theorem ly107 : lay 107 = some (.inr (0, 24)) := rfl
theorem ly108 : lay 108 = some (.inl 5) := rfl
theorem ly109 : lay 109 = some (.inr (0, 24)) := rfl
theorem ly110 : lay 110 = some (.inl 5) := rfl
theorem ly111 : lay 111 = some (.inr (0, 24)) := rfl
theorem ly112 : lay 112 = some (.inr (3, 2)) := rfl
theorem ly113 : lay 113 = some (.inl 2) := rfl
theorem ly114 : lay 114 = some (.inl 5) := rfl
theorem ly115 : lay 115 = some (.inr (0, 24)) := rfl
theorem ly116 : lay 116 = some (.inr (1, 6)) := rfl
theorem ly117 : lay 117 = some (.inr (1, 6)) := rfl
theorem ly118 : lay 118 = some (.inr (0, 24)) := rfl
theorem ly119 : lay 119 = some (.inr (0, 24)) := rfl
theorem ly120 : lay 120 = some (.inr (0, 144)) := rfl
theorem ly121 : lay 121 = some (.inr (1, 145)) := rfl
theorem ly122 : lay 122 = some (.inl 1) := rfl
theorem ly123 : lay 123 = some (.inl 9) := rfl
theorem ly124 : lay 124 = some (.inr (1, 84)) := rfl
theorem ly125 : lay 125 = some (.inr (0, 84)) := rfl
theorem ly126 : lay 126 = some (.inr (0, 13)) := rfl
theorem ly127 : lay 127 = some (.inr (0, 6)) := rfl
theorem ly128 : lay 128 = some (.inl 5) := rfl
theorem ly129 : lay 129 = some (.inr (0, 13)) := rfl
theorem ly130 : lay 130 = some (.inl 0) := rfl
theorem ly131 : lay 131 = some (.inl 5) := rfl
theorem ly132 : lay 132 = some (.inr (0, 5)) := rfl
theorem ly133 : lay 133 = some (.inl 6) := rfl
theorem ly134 : lay 134 = some (.inl 5) := rfl
theorem ly135 : lay 135 = some (.inr (0, 12)) := rfl
theorem ly136 : lay 136 = some (.inr (0, 12)) := rfl
theorem ly137 : lay 137 = some (.inr (1, 48)) := rfl
theorem ly138 : lay 138 = some (.inr (1, 40)) := rfl
theorem ly139 : lay 139 = some (.inr (1, 78)) := rfl
theorem ly140 : lay 140 = some (.inl 5) := rfl
theorem ly141 : lay 141 = some (.inr (0, 13)) := rfl
theorem ly142 : lay 142 = some (.inl 8) := rfl
theorem ly143 : lay 143 = some (.inr (0, 16)) := rfl
theorem ly144 : lay 144 = some (.inl 0) := rfl
theorem ly145 : lay 145 = some (.inr (0, 6)) := rfl
theorem ly146 : lay 146 = some (.inr (1, 5)) := rfl
theorem ly147 : lay 147 = some (.inr (0, 8)) := rfl
theorem ly148 : lay 148 = some (.inr (0, 8)) := rfl
theorem ly149 : lay 149 = some (.inr (0, 8)) := rfl
theorem ly150 : lay 150 = some (.inr (0, 8)) := rfl
theorem ly151 : lay 151 = some (.inr (0, 320)) := rfl
theorem ly152 : lay 152 = some (.inr (0, 1280)) := rfl
theorem ly153 : lay 153 = some (.inl 5) := rfl
theorem ly154 : lay 154 = some (.inr (0, 24)) := rfl
theorem ly155 : lay 155 = some (.inl 11) := rfl
theorem ly156 : lay 156 = some (.inr (2, 940)) := rfl
theorem ly157 : lay 157 = some (.inr (0, 713)) := rfl
theorem ly158 : lay 158 = some (.inr (0, 437)) := rfl
theorem ly159 : lay 159 = some (.inr (1, 32)) := rfl
theorem ly160 : lay 160 = some (.inr (1, 16)) := rfl
theorem ly161 : lay 161 = some (.inr (0, 24)) := rfl
theorem ly162 : lay 162 = some (.inr (0, 24)) := rfl
theorem ly163 : lay 163 = some (.inr (0, 24)) := rfl
theorem ly164 : lay 164 = some (.inr (0, 10240)) := rfl
theorem ly165 : lay 165 = some (.inr (0, 40)) := rfl
theorem ly166 : lay 166 = some (.inr (0, 25)) := rfl
theorem ly167 : lay 167 = some (.inr (1, 125)) := rfl
theorem ly168 : lay 168 = some (.inr (0, 6)) := rfl
theorem ly169 : lay 169 = some (.inr (0, 144)) := rfl
theorem ly170 : lay 170 = some (.inr (1, 145)) := rfl
theorem ly171 : lay 171 = some (.inr (1, 84)) := rfl
theorem ly172 : lay 172 = some (.inr (0, 6)) := rfl
theorem ly173 : lay 173 = some (.inr (0, 14)) := rfl
theorem ly174 : lay 174 = some (.inr (0, 14)) := rfl
theorem ly175 : lay 175 = some (.inr (0, 84)) := rfl
theorem ly176 : lay 176 = some (.inr (0, 24)) := rfl
theorem ly177 : lay 177 = some (.inr (0, 15)) := rfl
theorem ly178 : lay 178 = some (.inr (0, 12)) := rfl
theorem ly179 : lay 179 = some (.inr (0, 3)) := rfl
theorem ly180 : lay 180 = some (.inr (0, 12)) := rfl
theorem ly181 : lay 181 = some (.inr (1, 60)) := rfl
theorem ly182 : lay 182 = some (.inr (1, 65)) := rfl
theorem ly183 : lay 183 = some (.inr (0, 1426)) := rfl
theorem ly184 : lay 184 = some (.inr (1, 32)) := rfl
theorem ly185 : lay 185 = some (.inr (3, 2)) := rfl
theorem iX12 : ∀ w ∈ u_ws RX12 TX12 12, w ∈ tbl := by decide +kernel
theorem iX1 : ∀ w ∈ u_ws RX1 TX1 2, w ∈ tbl := by decide +kernel
theorem iX2 : ∀ w ∈ u_ws RX2 TX2 6, w ∈ tbl := by decide +kernel
theorem iX3 : ∀ w ∈ u_ws RX3 TX3 8, w ∈ tbl := by decide +kernel
theorem iX5 : ∀ w ∈ u_ws RX5 TX5 4, w ∈ tbl := by decide +kernel
theorem iX6 : ∀ w ∈ u_ws RX6 TX6 6, w ∈ tbl := by decide +kernel
theorem iX7 : ∀ w ∈ u_ws RX7 TX7 2, w ∈ tbl := by decide +kernel
theorem iX8 : ∀ w ∈ u_ws RX8 TX8 13, w ∈ tbl := by decide +kernel
theorem iX9 : ∀ w ∈ u_ws RX9 TX9 7, w ∈ tbl := by decide +kernel
theorem iX10 : ∀ w ∈ u_ws RX10 TX10 15, w ∈ tbl := by decide +kernel
theorem iX11 : ∀ w ∈ u_ws RX11 TX11 9, w ∈ tbl := by decide +kernel
theorem iX13 : ∀ w ∈ u_ws RX13 TX13 57, w ∈ tbl := by decide +kernel
theorem ca_J6_bitCount_0f7a4 : Cal yJ6_bitCount_0f7a4 cJ6_bitCount_0f7a4 1 (some .int) 1 := ⟨in_4 148 rfl rfl, in_1 23 rfl rfl, by decide +kernel, by decide⟩
theorem ca_J7_fill_53178 : Cal yJ7_fill_53178 cJ7_fill_53178 4 (none) 2 := ⟨in_1 160 rfl rfl, in_1 9 rfl rfl, by decide +kernel, by decide⟩
theorem ca_J7_fill_d0a16 : Cal yJ7_fill_d0a16 cJ7_fill_d0a16 5 (none) 2 := ⟨in_1 163 rfl rfl, in_1 9 rfl rfl, by decide +kernel, by decide⟩
theorem ca_X10_allWeighs : Cal yX10_allWeighs cX10_allWeighs 3 (some .int) 0 := ⟨in_4 17 rfl rfl, in_1 7 rfl rfl, by decide +kernel, by decide⟩
theorem ca_X10_anyOf : Cal yX10_anyOf cX10_anyOf 4 (some .int) 1 := ⟨in_4 67 rfl rfl, in_1 7 rfl rfl, by decide +kernel, by decide⟩
theorem ca_X10_change : Cal yX10_change cX10_change 7 (none) 4 := ⟨in_3 162 rfl rfl, in_1 7 rfl rfl, by decide +kernel, by decide⟩
theorem ca_X10_clear : Cal yX10_clear cX10_clear 2 (none) 0 := ⟨in_1 153 rfl rfl, in_1 7 rfl rfl, by decide +kernel, by decide⟩
theorem ca_X10_copyFrom : Cal yX10_copyFrom cX10_copyFrom 2 (none) 1 := ⟨in_3 191 rfl rfl, in_1 7 rfl rfl, by decide +kernel, by decide⟩
theorem ca_X10_hasSaying : Cal yX10_hasSaying cX10_hasSaying 2 (some .boolean) 1 := ⟨in_3 209 rfl rfl, in_1 7 rfl rfl, by decide +kernel, by decide⟩
theorem ca_X10_hasSort : Cal yX10_hasSort cX10_hasSort 2 (some .boolean) 1 := ⟨in_3 213 rfl rfl, in_1 7 rfl rfl, by decide +kernel, by decide⟩
theorem ca_X10_init : Cal yX10_init cX10_init 1 (none) 0 := ⟨in_1 128 rfl rfl, in_1 7 rfl rfl, by decide +kernel, by decide⟩
theorem ca_X10_isTold : Cal yX10_isTold cX10_isTold 4 (some .boolean) 3 := ⟨in_5 55 rfl rfl, in_1 7 rfl rfl, by decide +kernel, by decide⟩
theorem ca_X10_made : Cal yX10_made cX10_made 4 (some .int) 3 := ⟨in_3 218 rfl rfl, in_1 7 rfl rfl, by decide +kernel, by decide⟩
theorem ca_X10_madeOfFour : Cal yX10_madeOfFour cX10_madeOfFour 5 (some .int) 2 := ⟨in_3 183 rfl rfl, in_1 7 rfl rfl, by decide +kernel, by decide⟩
theorem ca_X10_mayEnd : Cal yX10_mayEnd cX10_mayEnd 2 (some .boolean) 1 := ⟨in_4 91 rfl rfl, in_1 7 rfl rfl, by decide +kernel, by decide⟩
theorem ca_X10_mayFollow : Cal yX10_mayFollow cX10_mayFollow 3 (some .boolean) 2 := ⟨in_3 107 rfl rfl, in_1 7 rfl rfl, by decide +kernel, by decide⟩
theorem ca_X10_meant : Cal yX10_meant cX10_meant 3 (some .int) 1 := ⟨in_4 71 rfl rfl, in_1 7 rfl rfl, by decide +kernel, by decide⟩
theorem ca_X10_readAlike : Cal yX10_readAlike cX10_readAlike 5 (some .boolean) 2 := ⟨in_4 9 rfl rfl, in_1 7 rfl rfl, by decide +kernel, by decide⟩
theorem ca_X10_readsAs : Cal yX10_readsAs cX10_readsAs 3 (some .boolean) 2 := ⟨in_3 140 rfl rfl, in_1 7 rfl rfl, by decide +kernel, by decide⟩
theorem ca_X10_settle : Cal yX10_settle cX10_settle 3 (none) 0 := ⟨in_3 179 rfl rfl, in_1 7 rfl rfl, by decide +kernel, by decide⟩
theorem ca_X10_stepped : Cal yX10_stepped cX10_stepped 11 (some .long) 2 := ⟨in_4 64 rfl rfl, in_1 7 rfl rfl, by decide +kernel, by decide⟩
theorem ca_X10_turnFollow : Cal yX10_turnFollow cX10_turnFollow 3 (none) 2 := ⟨in_3 111 rfl rfl, in_1 7 rfl rfl, by decide +kernel, by decide⟩
theorem ca_X10_turnReads : Cal yX10_turnReads cX10_turnReads 3 (none) 2 := ⟨in_3 144 rfl rfl, in_1 7 rfl rfl, by decide +kernel, by decide⟩
theorem ca_X10_turnTold : Cal yX10_turnTold cX10_turnTold 4 (none) 3 := ⟨in_5 61 rfl rfl, in_1 7 rfl rfl, by decide +kernel, by decide⟩
theorem ca_X10_weighedAt : Cal yX10_weighedAt cX10_weighedAt 4 (some .int) 1 := ⟨in_4 22 rfl rfl, in_1 7 rfl rfl, by decide +kernel, by decide⟩
theorem ca_X11_agreed : Cal yX11_agreed cX11_agreed 5 (some .int) 1 := ⟨in_5 43 rfl rfl, in_1 12 rfl rfl, by decide +kernel, by decide⟩
theorem ca_X11_beatsFit : Cal yX11_beatsFit cX11_beatsFit 8 (some .boolean) 2 := ⟨in_4 225 rfl rfl, in_1 12 rfl rfl, by decide +kernel, by decide⟩
theorem ca_X11_begin : Cal yX11_begin cX11_begin 5 (none) 2 := ⟨in_4 210 rfl rfl, in_1 12 rfl rfl, by decide +kernel, by decide⟩
theorem ca_X11_init : Cal yX11_init cX11_init 1 (none) 0 := ⟨in_2 75 rfl rfl, in_1 12 rfl rfl, by decide +kernel, by decide⟩
theorem ca_X11_meets : Cal yX11_meets cX11_meets 5 (some .boolean) 2 := ⟨in_4 230 rfl rfl, in_1 12 rfl rfl, by decide +kernel, by decide⟩
theorem ca_X11_put : Cal yX11_put cX11_put 9 (some .boolean) 2 := ⟨in_4 221 rfl rfl, in_1 12 rfl rfl, by decide +kernel, by decide⟩
theorem ca_X12_areAgainst : Cal yX12_areAgainst cX12_areAgainst 6 (some .boolean) 3 := ⟨in_4 126 rfl rfl, in_1 1 rfl rfl, by decide +kernel, by decide⟩
theorem ca_X12_findWithBeats : Cal yX12_findWithBeats cX12_findWithBeats 4 (some .int) 2 := ⟨in_4 190 rfl rfl, in_1 1 rfl rfl, by decide +kernel, by decide⟩
theorem ca_X12_goalsFromTape : Cal yX12_goalsFromTape cX12_goalsFromTape 3 (some .boolean) 0 := ⟨in_4 194 rfl rfl, in_1 1 rfl rfl, by decide +kernel, by decide⟩
theorem ca_X12_isBeginning : Cal yX12_isBeginning cX12_isBeginning 2 (some .boolean) 1 := ⟨in_4 34 rfl rfl, in_1 1 rfl rfl, by decide +kernel, by decide⟩
theorem ca_X12_isBeginningOrAll : Cal yX12_isBeginningOrAll cX12_isBeginningOrAll 2 (some .boolean) 1 := ⟨in_4 30 rfl rfl, in_1 1 rfl rfl, by decide +kernel, by decide⟩
theorem ca_X12_isMeaning : Cal yX12_isMeaning cX12_isMeaning 1 (some .boolean) 1 := ⟨in_3 205 rfl rfl, in_1 1 rfl rfl, by decide +kernel, by decide⟩
theorem ca_X12_meaningsWith : Cal yX12_meaningsWith cX12_meaningsWith 3 (some .int) 1 := ⟨in_4 129 rfl rfl, in_1 1 rfl rfl, by decide +kernel, by decide⟩
theorem ca_X12_mostSayableWith : Cal yX12_mostSayableWith cX12_mostSayableWith 10 (some .int) 2 := ⟨in_5 51 rfl rfl, in_1 1 rfl rfl, by decide +kernel, by decide⟩
theorem ca_X12_putBytes : Cal yX12_putBytes cX12_putBytes 3 (none) 1 := ⟨in_2 236 rfl rfl, in_1 1 rfl rfl, by decide +kernel, by decide⟩
theorem ca_X12_rowFromTape : Cal yX12_rowFromTape cX12_rowFromTape 4 (some .boolean) 1 := ⟨in_4 1 rfl rfl, in_1 1 rfl rfl, by decide +kernel, by decide⟩
theorem ca_X13_bad : Cal yX13_bad cX13_bad 2 (some .boolean) 1 := ⟨in_7 52 rfl rfl, in_1 14 rfl rfl, by decide +kernel, by decide⟩
theorem ca_X13_begin : Cal yX13_begin cX13_begin 3 (none) 1 := ⟨in_8 35 rfl rfl, in_1 14 rfl rfl, by decide +kernel, by decide⟩
theorem ca_X13_bestFrom : Cal yX13_bestFrom cX13_bestFrom 9 (some .long) 2 := ⟨in_8 130 rfl rfl, in_1 14 rfl rfl, by decide +kernel, by decide⟩
theorem ca_X13_comes : Cal yX13_comes cX13_comes 9 (some .long) 2 := ⟨in_7 200 rfl rfl, in_1 14 rfl rfl, by decide +kernel, by decide⟩
theorem ca_X13_comesFrom : Cal yX13_comesFrom cX13_comesFrom 5 (some .boolean) 3 := ⟨in_8 134 rfl rfl, in_1 14 rfl rfl, by decide +kernel, by decide⟩
theorem ca_X13_common : Cal yX13_common cX13_common 5 (some .int) 2 := ⟨in_8 10 rfl rfl, in_1 14 rfl rfl, by decide +kernel, by decide⟩
theorem ca_X13_count : Cal yX13_count cX13_count 6 (none) 0 := ⟨in_7 213 rfl rfl, in_1 14 rfl rfl, by decide +kernel, by decide⟩
theorem ca_X13_countTorn : Cal yX13_countTorn cX13_countTorn 8 (some .long) 1 := ⟨in_8 138 rfl rfl, in_1 14 rfl rfl, by decide +kernel, by decide⟩
theorem ca_X13_draw : Cal yX13_draw cX13_draw 2 (some .int) 1 := ⟨in_7 154 rfl rfl, in_1 14 rfl rfl, by decide +kernel, by decide⟩
theorem ca_X13_ends : Cal yX13_ends cX13_ends 5 (some .int) 1 := ⟨in_7 205 rfl rfl, in_1 14 rfl rfl, by decide +kernel, by decide⟩
theorem ca_X13_find : Cal yX13_find cX13_find 4 (some .int) 2 := ⟨in_7 64 rfl rfl, in_1 14 rfl rfl, by decide +kernel, by decide⟩
theorem ca_X13_four : Cal yX13_four cX13_four 3 (none) 1 := ⟨in_6 53 rfl rfl, in_1 14 rfl rfl, by decide +kernel, by decide⟩
theorem ca_X13_fresh : Cal yX13_fresh cX13_fresh 2 (some .boolean) 1 := ⟨in_7 56 rfl rfl, in_1 14 rfl rfl, by decide +kernel, by decide⟩
theorem ca_X13_has : Cal yX13_has cX13_has 2 (some .boolean) 2 := ⟨in_7 98 rfl rfl, in_1 14 rfl rfl, by decide +kernel, by decide⟩
theorem ca_X13_hasBeats : Cal yX13_hasBeats cX13_hasBeats 3 (some .boolean) 1 := ⟨in_8 47 rfl rfl, in_1 14 rfl rfl, by decide +kernel, by decide⟩
theorem ca_X13_isAll : Cal yX13_isAll cX13_isAll 4 (some .boolean) 3 := ⟨in_7 228 rfl rfl, in_1 14 rfl rfl, by decide +kernel, by decide⟩
theorem ca_X13_isBeginning : Cal yX13_isBeginning cX13_isBeginning 2 (some .boolean) 1 := ⟨in_7 163 rfl rfl, in_1 14 rfl rfl, by decide +kernel, by decide⟩
theorem ca_X13_isDigit : Cal yX13_isDigit cX13_isDigit 1 (some .boolean) 1 := ⟨in_7 36 rfl rfl, in_1 14 rfl rfl, by decide +kernel, by decide⟩
theorem ca_X13_isIn : Cal yX13_isIn cX13_isIn 3 (some .boolean) 3 := ⟨in_7 83 rfl rfl, in_1 14 rfl rfl, by decide +kernel, by decide⟩
theorem ca_X13_isName : Cal yX13_isName cX13_isName 3 (some .boolean) 0 := ⟨in_7 60 rfl rfl, in_1 14 rfl rfl, by decide +kernel, by decide⟩
theorem ca_X13_isSaying : Cal yX13_isSaying cX13_isSaying 2 (some .boolean) 1 := ⟨in_7 118 rfl rfl, in_1 14 rfl rfl, by decide +kernel, by decide⟩
theorem ca_X13_isSign : Cal yX13_isSign cX13_isSign 2 (some .boolean) 1 := ⟨in_7 106 rfl rfl, in_1 14 rfl rfl, by decide +kernel, by decide⟩
theorem ca_X13_isSmall : Cal yX13_isSmall cX13_isSmall 1 (some .boolean) 1 := ⟨in_7 33 rfl rfl, in_1 14 rfl rfl, by decide +kernel, by decide⟩
theorem ca_X13_isStruck : Cal yX13_isStruck cX13_isStruck 3 (some .boolean) 2 := ⟨in_7 175 rfl rfl, in_1 14 rfl rfl, by decide +kernel, by decide⟩
theorem ca_X13_isWord : Cal yX13_isWord cX13_isWord 3 (some .boolean) 1 := ⟨in_7 44 rfl rfl, in_1 14 rfl rfl, by decide +kernel, by decide⟩
theorem ca_X13_keep : Cal yX13_keep cX13_keep 4 (none) 2 := ⟨in_7 138 rfl rfl, in_1 14 rfl rfl, by decide +kernel, by decide⟩
theorem ca_X13_keepRow : Cal yX13_keepRow cX13_keepRow 3 (some .int) 1 := ⟨in_8 59 rfl rfl, in_1 14 rfl rfl, by decide +kernel, by decide⟩
theorem ca_X13_leave : Cal yX13_leave cX13_leave 6 (none) 3 := ⟨in_7 171 rfl rfl, in_1 14 rfl rfl, by decide +kernel, by decide⟩
theorem ca_X13_leaveText : Cal yX13_leaveText cX13_leaveText 3 (none) 1 := ⟨in_7 167 rfl rfl, in_1 14 rfl rfl, by decide +kernel, by decide⟩
theorem ca_X13_likely : Cal yX13_likely cX13_likely 15 (none) 1 := ⟨in_8 126 rfl rfl, in_1 14 rfl rfl, by decide +kernel, by decide⟩
theorem ca_X13_line : Cal yX13_line cX13_line 1 (some .boolean) 0 := ⟨in_7 40 rfl rfl, in_1 14 rfl rfl, by decide +kernel, by decide⟩
theorem ca_X13_many : Cal yX13_many cX13_many 3 (some .int) 1 := ⟨in_8 94 rfl rfl, in_1 14 rfl rfl, by decide +kernel, by decide⟩
theorem ca_X13_mayBe : Cal yX13_mayBe cX13_mayBe 3 (some .boolean) 2 := ⟨in_8 122 rfl rfl, in_1 14 rfl rfl, by decide +kernel, by decide⟩
theorem ca_X13_meansNow : Cal yX13_meansNow cX13_meansNow 2 (some .int) 1 := ⟨in_8 55 rfl rfl, in_1 14 rfl rfl, by decide +kernel, by decide⟩
theorem ca_X13_meant : Cal yX13_meant cX13_meant 6 (some .int) 2 := ⟨in_7 195 rfl rfl, in_1 14 rfl rfl, by decide +kernel, by decide⟩
theorem ca_X13_meantTorn : Cal yX13_meantTorn cX13_meantTorn 8 (some .int) 1 := ⟨in_8 118 rfl rfl, in_1 14 rfl rfl, by decide +kernel, by decide⟩
theorem ca_X13_meetsGoals : Cal yX13_meetsGoals cX13_meetsGoals 3 (some .boolean) 0 := ⟨in_8 51 rfl rfl, in_1 14 rfl rfl, by decide +kernel, by decide⟩
theorem ca_X13_mends : Cal yX13_mends cX13_mends 5 (some .boolean) 1 := ⟨in_8 106 rfl rfl, in_1 14 rfl rfl, by decide +kernel, by decide⟩
theorem ca_X13_next : Cal yX13_next cX13_next 4 (none) 0 := ⟨in_7 26 rfl rfl, in_1 14 rfl rfl, by decide +kernel, by decide⟩
theorem ca_X13_nextRow : Cal yX13_nextRow cX13_nextRow 2 (some .boolean) 0 := ⟨in_8 39 rfl rfl, in_1 14 rfl rfl, by decide +kernel, by decide⟩
theorem ca_X13_octet : Cal yX13_octet cX13_octet 2 (some .int) 1 := ⟨in_7 146 rfl rfl, in_1 14 rfl rfl, by decide +kernel, by decide⟩
theorem ca_X13_only : Cal yX13_only cX13_only 2 (some .int) 1 := ⟨in_8 3 rfl rfl, in_1 14 rfl rfl, by decide +kernel, by decide⟩
theorem ca_X13_peek : Cal yX13_peek cX13_peek 1 (some .int) 0 := ⟨in_7 30 rfl rfl, in_1 14 rfl rfl, by decide +kernel, by decide⟩
theorem ca_X13_placesBehind : Cal yX13_placesBehind cX13_placesBehind 7 (some .int) 4 := ⟨in_8 110 rfl rfl, in_1 14 rfl rfl, by decide +kernel, by decide⟩
theorem ca_X13_plainTongue : Cal yX13_plainTongue cX13_plainTongue 2 (none) 0 := ⟨in_6 82 rfl rfl, in_1 14 rfl rfl, by decide +kernel, by decide⟩
theorem ca_X13_readClerk : Cal yX13_readClerk cX13_readClerk 2 (some .boolean) 0 := ⟨in_7 95 rfl rfl, in_1 14 rfl rfl, by decide +kernel, by decide⟩
theorem ca_X13_readEdict : Cal yX13_readEdict cX13_readEdict 1 (some .boolean) 0 := ⟨in_7 91 rfl rfl, in_1 14 rfl rfl, by decide +kernel, by decide⟩
theorem ca_X13_readFollow : Cal yX13_readFollow cX13_readFollow 3 (some .boolean) 0 := ⟨in_7 68 rfl rfl, in_1 14 rfl rfl, by decide +kernel, by decide⟩
theorem ca_X13_readReads : Cal yX13_readReads cX13_readReads 8 (some .boolean) 0 := ⟨in_7 87 rfl rfl, in_1 14 rfl rfl, by decide +kernel, by decide⟩
theorem ca_X13_readSort : Cal yX13_readSort cX13_readSort 3 (some .boolean) 0 := ⟨in_7 48 rfl rfl, in_1 14 rfl rfl, by decide +kernel, by decide⟩
theorem ca_X13_readWord : Cal yX13_readWord cX13_readWord 2 (some .boolean) 0 := ⟨in_7 76 rfl rfl, in_1 14 rfl rfl, by decide +kernel, by decide⟩
theorem ca_X13_sayableIn : Cal yX13_sayableIn cX13_sayableIn 6 (some .int) 1 := ⟨in_8 87 rfl rfl, in_1 14 rfl rfl, by decide +kernel, by decide⟩
theorem ca_X13_settle : Cal yX13_settle cX13_settle 5 (none) 0 := ⟨in_7 191 rfl rfl, in_1 14 rfl rfl, by decide +kernel, by decide⟩
theorem ca_X13_shortest : Cal yX13_shortest cX13_shortest 4 (some .int) 2 := ⟨in_8 31 rfl rfl, in_1 14 rfl rfl, by decide +kernel, by decide⟩
theorem ca_X13_sign : Cal yX13_sign cX13_sign 2 (some .boolean) 1 := ⟨in_7 102 rfl rfl, in_1 14 rfl rfl, by decide +kernel, by decide⟩
theorem ca_X13_step : Cal yX13_step cX13_step 5 (none) 1 := ⟨in_8 43 rfl rfl, in_1 14 rfl rfl, by decide +kernel, by decide⟩
theorem ca_X13_taken : Cal yX13_taken cX13_taken 2 (none) 1 := ⟨in_7 22 rfl rfl, in_1 14 rfl rfl, by decide +kernel, by decide⟩
theorem ca_X13_takes : Cal yX13_takes cX13_takes 3 (some .boolean) 2 := ⟨in_7 80 rfl rfl, in_1 14 rfl rfl, by decide +kernel, by decide⟩
theorem ca_X13_takesGoals : Cal yX13_takesGoals cX13_takesGoals 2 (some .boolean) 0 := ⟨in_8 27 rfl rfl, in_1 14 rfl rfl, by decide +kernel, by decide⟩
theorem ca_X13_takesName : Cal yX13_takesName cX13_takesName 3 (some .boolean) 2 := ⟨in_7 72 rfl rfl, in_1 14 rfl rfl, by decide +kernel, by decide⟩
theorem ca_X13_textMeans : Cal yX13_textMeans cX13_textMeans 2 (some .int) 1 := ⟨in_7 187 rfl rfl, in_1 14 rfl rfl, by decide +kernel, by decide⟩
theorem ca_X13_throwsIf : Cal yX13_throwsIf cX13_throwsIf 2 (some .boolean) 1 := ⟨in_7 122 rfl rfl, in_1 14 rfl rfl, by decide +kernel, by decide⟩
theorem ca_X1_init : Cal yX1_init cX1_init 1 (none) 0 := ⟨in_1 134 rfl rfl, in_1 8 rfl rfl, by decide +kernel, by decide⟩
theorem ca_X1_leftOf : Cal yX1_leftOf cX1_leftOf 5 (some .int) 2 := ⟨in_5 99 rfl rfl, in_1 8 rfl rfl, by decide +kernel, by decide⟩
theorem ca_X1_strikes : Cal yX1_strikes cX1_strikes 3 (some .boolean) 2 := ⟨in_4 42 rfl rfl, in_1 8 rfl rfl, by decide +kernel, by decide⟩
theorem ca_X1_tell : Cal yX1_tell cX1_tell 3 (none) 2 := ⟨in_1 157 rfl rfl, in_1 8 rfl rfl, by decide +kernel, by decide⟩
theorem ca_X2_collect : Cal yX2_collect cX2_collect 5 (some .int) 2 := ⟨in_5 39 rfl rfl, in_1 11 rfl rfl, by decide +kernel, by decide⟩
theorem ca_X2_collectSafe : Cal yX2_collectSafe cX2_collectSafe 3 (some .int) 2 := ⟨in_5 34 rfl rfl, in_1 11 rfl rfl, by decide +kernel, by decide⟩
theorem ca_X2_foundRow : Cal yX2_foundRow cX2_foundRow 1 (some (.object "StruckWords$Row")) 0 := ⟨in_4 236 rfl rfl, in_1 11 rfl rfl, by decide +kernel, by decide⟩
theorem ca_X2_init : Cal yX2_init cX2_init 1 (none) 0 := ⟨in_2 69 rfl rfl, in_1 11 rfl rfl, by decide +kernel, by decide⟩
theorem ca_X2_seek : Cal yX2_seek cX2_seek 3 (some .boolean) 1 := ⟨in_4 217 rfl rfl, in_1 11 rfl rfl, by decide +kernel, by decide⟩
theorem ca_X2_seekCheaper : Cal yX2_seekCheaper cX2_seekCheaper 4 (none) 2 := ⟨in_5 8 rfl rfl, in_1 11 rfl rfl, by decide +kernel, by decide⟩
theorem ca_X2_seekCheapest : Cal yX2_seekCheapest cX2_seekCheapest 4 (some .int) 2 := ⟨in_5 4 rfl rfl, in_1 11 rfl rfl, by decide +kernel, by decide⟩
theorem ca_X2_seekMended : Cal yX2_seekMended cX2_seekMended 4 (some .int) 2 := ⟨in_5 86 rfl rfl, in_1 11 rfl rfl, by decide +kernel, by decide⟩
theorem ca_X2_seekShortest : Cal yX2_seekShortest cX2_seekShortest 5 (some .int) 3 := ⟨in_4 206 rfl rfl, in_1 11 rfl rfl, by decide +kernel, by decide⟩
theorem ca_X2_seekShortestBy : Cal yX2_seekShortestBy cX2_seekShortestBy 5 (some .int) 4 := ⟨in_5 76 rfl rfl, in_1 11 rfl rfl, by decide +kernel, by decide⟩
theorem ca_X2_seekWithIdle : Cal yX2_seekWithIdle cX2_seekWithIdle 7 (some .boolean) 2 := ⟨in_5 90 rfl rfl, in_1 11 rfl rfl, by decide +kernel, by decide⟩
theorem ca_X2_want : Cal yX2_want cX2_want 3 (none) 2 := ⟨in_4 198 rfl rfl, in_1 11 rfl rfl, by decide +kernel, by decide⟩
theorem ca_X2_wantBeats : Cal yX2_wantBeats cX2_wantBeats 2 (none) 1 := ⟨in_4 202 rfl rfl, in_1 11 rfl rfl, by decide +kernel, by decide⟩
theorem ca_X2_wantByAll : Cal yX2_wantByAll cX2_wantByAll 3 (none) 2 := ⟨in_5 21 rfl rfl, in_1 11 rfl rfl, by decide +kernel, by decide⟩
theorem ca_X3_beatsBy : Cal yX3_beatsBy cX3_beatsBy 6 (some .int) 3 := ⟨in_4 159 rfl rfl, in_1 10 rfl rfl, by decide +kernel, by decide⟩
theorem ca_X3_countReadings : Cal yX3_countReadings cX3_countReadings 6 (some .long) 2 := ⟨in_4 79 rfl rfl, in_1 10 rfl rfl, by decide +kernel, by decide⟩
theorem ca_X3_countWith : Cal yX3_countWith cX3_countWith 5 (none) 2 := ⟨in_4 84 rfl rfl, in_1 10 rfl rfl, by decide +kernel, by decide⟩
theorem ca_X3_firstBehind : Cal yX3_firstBehind cX3_firstBehind 4 (some .int) 3 := ⟨in_4 106 rfl rfl, in_1 10 rfl rfl, by decide +kernel, by decide⟩
theorem ca_X3_init : Cal yX3_init cX3_init 1 (none) 0 := ⟨in_2 35 rfl rfl, in_1 10 rfl rfl, by decide +kernel, by decide⟩
theorem ca_X3_leadsTo : Cal yX3_leadsTo cX3_leadsTo 3 (some .boolean) 3 := ⟨in_4 103 rfl rfl, in_1 10 rfl rfl, by decide +kernel, by decide⟩
theorem ca_X3_lettersBefore : Cal yX3_lettersBefore cX3_lettersBefore 5 (some .int) 2 := ⟨in_4 178 rfl rfl, in_1 10 rfl rfl, by decide +kernel, by decide⟩
theorem ca_X3_meanTheSame : Cal yX3_meanTheSame cX3_meanTheSame 5 (some .boolean) 3 := ⟨in_4 141 rfl rfl, in_1 10 rfl rfl, by decide +kernel, by decide⟩
theorem ca_X3_meansBy : Cal yX3_meansBy cX3_meansBy 7 (some .int) 3 := ⟨in_4 59 rfl rfl, in_1 10 rfl rfl, by decide +kernel, by decide⟩
theorem ca_X3_readFirst : Cal yX3_readFirst cX3_readFirst 7 (some .boolean) 2 := ⟨in_4 100 rfl rfl, in_1 10 rfl rfl, by decide +kernel, by decide⟩
theorem ca_X3_sortRead : Cal yX3_sortRead cX3_sortRead 2 (some .int) 1 := ⟨in_4 110 rfl rfl, in_1 10 rfl rfl, by decide +kernel, by decide⟩
theorem ca_X3_strike : Cal yX3_strike cX3_strike 4 (some (.object "StruckWords$Row")) 2 := ⟨in_4 38 rfl rfl, in_1 10 rfl rfl, by decide +kernel, by decide⟩
theorem ca_X3_strikeLetters : Cal yX3_strikeLetters cX3_strikeLetters 9 (none) 3 := ⟨in_4 171 rfl rfl, in_1 10 rfl rfl, by decide +kernel, by decide⟩
theorem ca_X3_turnsOf : Cal yX3_turnsOf cX3_turnsOf 6 (some .int) 2 := ⟨in_4 118 rfl rfl, in_1 10 rfl rfl, by decide +kernel, by decide⟩
theorem ca_X3_waysOfLetters : Cal yX3_waysOfLetters cX3_waysOfLetters 7 (some .long) 3 := ⟨in_4 167 rfl rfl, in_1 10 rfl rfl, by decide +kernel, by decide⟩
theorem ca_X4_of : Cal yX4_of cX4_of 2 (some (.object "StruckWords$Keyword")) 1 := ⟨in_3 41 rfl rfl, in_1 16 rfl rfl, by decide +kernel, by decide⟩
theorem ca_X5_begin : Cal yX5_begin cX5_begin 2 (none) 1 := ⟨in_3 187 rfl rfl, in_1 6 rfl rfl, by decide +kernel, by decide⟩
theorem ca_X5_copyFrom : Cal yX5_copyFrom cX5_copyFrom 3 (none) 1 := ⟨in_5 186 rfl rfl, in_1 6 rfl rfl, by decide +kernel, by decide⟩
theorem ca_X5_init : Cal yX5_init cX5_init 2 (none) 0 := ⟨in_1 122 rfl rfl, in_1 6 rfl rfl, by decide +kernel, by decide⟩
theorem ca_X6_begin : Cal yX6_begin cX6_begin 4 (none) 3 := ⟨in_3 16 rfl rfl, in_1 4 rfl rfl, by decide +kernel, by decide⟩
theorem ca_X6_indexOfName : Cal yX6_indexOfName cX6_indexOfName 4 (some .int) 2 := ⟨in_3 77 rfl rfl, in_1 4 rfl rfl, by decide +kernel, by decide⟩
theorem ca_X6_init : Cal yX6_init cX6_init 1 (none) 0 := ⟨in_1 64 rfl rfl, in_1 4 rfl rfl, by decide +kernel, by decide⟩
theorem ca_X6_isBeginsOrEnds : Cal yX6_isBeginsOrEnds cX6_isBeginsOrEnds 1 (some .boolean) 0 := ⟨in_3 81 rfl rfl, in_1 4 rfl rfl, by decide +kernel, by decide⟩
theorem ca_X6_isChange : Cal yX6_isChange cX6_isChange 2 (some .boolean) 0 := ⟨in_3 148 rfl rfl, in_1 4 rfl rfl, by decide +kernel, by decide⟩
theorem ca_X6_isNameHere : Cal yX6_isNameHere cX6_isNameHere 1 (some .boolean) 0 := ⟨in_3 73 rfl rfl, in_1 4 rfl rfl, by decide +kernel, by decide⟩
theorem ca_X6_numberHere : Cal yX6_numberHere cX6_numberHere 3 (some .int) 2 := ⟨in_3 126 rfl rfl, in_1 4 rfl rfl, by decide +kernel, by decide⟩
theorem ca_X6_readChange : Cal yX6_readChange cX6_readChange 7 (some .boolean) 2 := ⟨in_3 158 rfl rfl, in_1 4 rfl rfl, by decide +kernel, by decide⟩
theorem ca_X6_readClerk : Cal yX6_readClerk cX6_readClerk 3 (some .boolean) 0 := ⟨in_3 171 rfl rfl, in_1 4 rfl rfl, by decide +kernel, by decide⟩
theorem ca_X6_readClose : Cal yX6_readClose cX6_readClose 1 (some .boolean) 0 := ⟨in_3 91 rfl rfl, in_1 4 rfl rfl, by decide +kernel, by decide⟩
theorem ca_X6_readEdict : Cal yX6_readEdict cX6_readEdict 3 (some .boolean) 0 := ⟨in_3 166 rfl rfl, in_1 4 rfl rfl, by decide +kernel, by decide⟩
theorem ca_X6_readFollow : Cal yX6_readFollow cX6_readFollow 3 (some .boolean) 0 := ⟨in_3 99 rfl rfl, in_1 4 rfl rfl, by decide +kernel, by decide⟩
theorem ca_X6_readLine : Cal yX6_readLine cX6_readLine 1 (some .boolean) 0 := ⟨in_3 48 rfl rfl, in_1 4 rfl rfl, by decide +kernel, by decide⟩
theorem ca_X6_readMark : Cal yX6_readMark cX6_readMark 1 (some .boolean) 0 := ⟨in_3 95 rfl rfl, in_1 4 rfl rfl, by decide +kernel, by decide⟩
theorem ca_X6_readNewName : Cal yX6_readNewName cX6_readNewName 3 (some .boolean) 1 := ⟨in_3 68 rfl rfl, in_1 4 rfl rfl, by decide +kernel, by decide⟩
theorem ca_X6_readOption : Cal yX6_readOption cX6_readOption 7 (some .boolean) 4 := ⟨in_3 122 rfl rfl, in_1 4 rfl rfl, by decide +kernel, by decide⟩
theorem ca_X6_readReads : Cal yX6_readReads cX6_readReads 4 (some .boolean) 0 := ⟨in_3 136 rfl rfl, in_1 4 rfl rfl, by decide +kernel, by decide⟩
theorem ca_X6_readSort : Cal yX6_readSort cX6_readSort 6 (some .boolean) 0 := ⟨in_3 64 rfl rfl, in_1 4 rfl rfl, by decide +kernel, by decide⟩
theorem ca_X6_readText : Cal yX6_readText cX6_readText 6 (some .int) 3 := ⟨in_3 226 rfl rfl, in_1 4 rfl rfl, by decide +kernel, by decide⟩
theorem ca_X6_readTongue : Cal yX6_readTongue cX6_readTongue 4 (some .int) 2 := ⟨in_3 12 rfl rfl, in_1 4 rfl rfl, by decide +kernel, by decide⟩
theorem ca_X6_readWord : Cal yX6_readWord cX6_readWord 3 (some .boolean) 0 := ⟨in_3 116 rfl rfl, in_1 4 rfl rfl, by decide +kernel, by decide⟩
theorem ca_X6_refuse : Cal yX6_refuse cX6_refuse 2 (some .boolean) 1 := ⟨in_3 52 rfl rfl, in_1 4 rfl rfl, by decide +kernel, by decide⟩
theorem ca_X6_toldHere : Cal yX6_toldHere cX6_toldHere 4 (some .int) 2 := ⟨in_3 103 rfl rfl, in_1 4 rfl rfl, by decide +kernel, by decide⟩
theorem ca_X7_atOrNone : Cal yX7_atOrNone cX7_atOrNone 2 (some .int) 1 := ⟨in_4 51 rfl rfl, in_1 2 rfl rfl, by decide +kernel, by decide⟩
theorem ca_X7_copyFrom : Cal yX7_copyFrom cX7_copyFrom 3 (none) 1 := ⟨in_3 231 rfl rfl, in_1 2 rfl rfl, by decide +kernel, by decide⟩
theorem ca_X7_init : Cal yX7_init cX7_init 2 (none) 1 := ⟨in_1 36 rfl rfl, in_1 2 rfl rfl, by decide +kernel, by decide⟩
theorem ca_X7_put : Cal yX7_put cX7_put 2 (none) 1 := ⟨in_3 0 rfl rfl, in_1 2 rfl rfl, by decide +kernel, by decide⟩
theorem ca_X8_chooseRow : Cal yX8_chooseRow cX8_chooseRow 6 (none) 0 := ⟨in_5 149 rfl rfl, in_1 13 rfl rfl, by decide +kernel, by decide⟩
theorem ca_X8_countAll : Cal yX8_countAll cX8_countAll 3 (none) 0 := ⟨in_5 111 rfl rfl, in_1 13 rfl rfl, by decide +kernel, by decide⟩
theorem ca_X8_countWith : Cal yX8_countWith cX8_countWith 4 (none) 1 := ⟨in_5 125 rfl rfl, in_1 13 rfl rfl, by decide +kernel, by decide⟩
theorem ca_X8_firstAt : Cal yX8_firstAt cX8_firstAt 10 (some .int) 3 := ⟨in_5 153 rfl rfl, in_1 13 rfl rfl, by decide +kernel, by decide⟩
theorem ca_X8_init : Cal yX8_init cX8_init 1 (none) 0 := ⟨in_2 139 rfl rfl, in_1 13 rfl rfl, by decide +kernel, by decide⟩
theorem ca_X8_look : Cal yX8_look cX8_look 8 (none) 4 := ⟨in_5 104 rfl rfl, in_1 13 rfl rfl, by decide +kernel, by decide⟩
theorem ca_X8_mayStandAt : Cal yX8_mayStandAt cX8_mayStandAt 3 (some .boolean) 2 := ⟨in_5 121 rfl rfl, in_1 13 rfl rfl, by decide +kernel, by decide⟩
theorem ca_X8_sortsBehind : Cal yX8_sortsBehind cX8_sortsBehind 6 (some .int) 2 := ⟨in_5 157 rfl rfl, in_1 13 rfl rfl, by decide +kernel, by decide⟩
theorem ca_X8_sumWhatIsAhead : Cal yX8_sumWhatIsAhead cX8_sumWhatIsAhead 4 (none) 0 := ⟨in_5 116 rfl rfl, in_1 13 rfl rfl, by decide +kernel, by decide⟩
theorem ca_X8_tellSure : Cal yX8_tellSure cX8_tellSure 3 (none) 0 := ⟨in_5 132 rfl rfl, in_1 13 rfl rfl, by decide +kernel, by decide⟩
theorem ca_X8_weighAll : Cal yX8_weighAll cX8_weighAll 3 (none) 0 := ⟨in_5 137 rfl rfl, in_1 13 rfl rfl, by decide +kernel, by decide⟩
theorem ca_X8_weighWith : Cal yX8_weighWith cX8_weighWith 8 (none) 2 := ⟨in_5 141 rfl rfl, in_1 13 rfl rfl, by decide +kernel, by decide⟩
theorem ca_X8_weightAt : Cal yX8_weightAt cX8_weightAt 3 (some .long) 2 := ⟨in_5 145 rfl rfl, in_1 13 rfl rfl, by decide +kernel, by decide⟩
theorem ca_X9_advance : Cal yX9_advance cX9_advance 6 (none) 0 := ⟨in_3 24 rfl rfl, in_1 5 rfl rfl, by decide +kernel, by decide⟩
theorem ca_X9_begin : Cal yX9_begin cX9_begin 3 (none) 2 := ⟨in_3 20 rfl rfl, in_1 5 rfl rfl, by decide +kernel, by decide⟩
theorem ca_X9_init : Cal yX9_init cX9_init 1 (none) 0 := ⟨in_1 70 rfl rfl, in_1 5 rfl rfl, by decide +kernel, by decide⟩
theorem ca_X9_isOfWord : Cal yX9_isOfWord cX9_isOfWord 1 (some .boolean) 1 := ⟨in_3 30 rfl rfl, in_1 5 rfl rfl, by decide +kernel, by decide⟩
theorem ca_X9_isTooLong : Cal yX9_isTooLong cX9_isTooLong 1 (some .boolean) 0 := ⟨in_3 175 rfl rfl, in_1 5 rfl rfl, by decide +kernel, by decide⟩
theorem ca_X9_kindOf : Cal yX9_kindOf cX9_kindOf 3 (some .int) 2 := ⟨in_3 38 rfl rfl, in_1 5 rfl rfl, by decide +kernel, by decide⟩
theorem ca_X9_letterFromLast : Cal yX9_letterFromLast cX9_letterFromLast 2 (some .int) 2 := ⟨in_4 174 rfl rfl, in_1 5 rfl rfl, by decide +kernel, by decide⟩
theorem ca_X9_withLetter : Cal yX9_withLetter cX9_withLetter 2 (some .int) 2 := ⟨in_3 33 rfl rfl, in_1 5 rfl rfl, by decide +kernel, by decide⟩
theorem ci_X10_allWeighs : Cond.instanceMethod yX10_allWeighs ∈ tbl := in_4 15 rfl rfl
theorem ci_X10_change : Cond.instanceMethod yX10_change ∈ tbl := in_3 160 rfl rfl
theorem ci_X10_clear : Cond.instanceMethod yX10_clear ∈ tbl := in_1 151 rfl rfl
theorem ci_X10_copyFrom : Cond.instanceMethod yX10_copyFrom ∈ tbl := in_3 189 rfl rfl
theorem ci_X10_hasSaying : Cond.instanceMethod yX10_hasSaying ∈ tbl := in_3 207 rfl rfl
theorem ci_X10_hasSort : Cond.instanceMethod yX10_hasSort ∈ tbl := in_3 211 rfl rfl
theorem ci_X10_init : Cond.instanceMethod yX10_init ∈ tbl := in_1 127 rfl rfl
theorem ci_X10_isTold : Cond.instanceMethod yX10_isTold ∈ tbl := in_5 53 rfl rfl
theorem ci_X10_made : Cond.instanceMethod yX10_made ∈ tbl := in_3 216 rfl rfl
theorem ci_X10_madeOfFour : Cond.instanceMethod yX10_madeOfFour ∈ tbl := in_3 182 rfl rfl
theorem ci_X10_mayEnd : Cond.instanceMethod yX10_mayEnd ∈ tbl := in_4 89 rfl rfl
theorem ci_X10_mayFollow : Cond.instanceMethod yX10_mayFollow ∈ tbl := in_3 105 rfl rfl
theorem ci_X10_meant : Cond.instanceMethod yX10_meant ∈ tbl := in_4 69 rfl rfl
theorem ci_X10_readAlike : Cond.instanceMethod yX10_readAlike ∈ tbl := in_4 7 rfl rfl
theorem ci_X10_readsAs : Cond.instanceMethod yX10_readsAs ∈ tbl := in_3 138 rfl rfl
theorem ci_X10_settle : Cond.instanceMethod yX10_settle ∈ tbl := in_3 177 rfl rfl
theorem ci_X10_stepped : Cond.instanceMethod yX10_stepped ∈ tbl := in_4 62 rfl rfl
theorem ci_X10_turnFollow : Cond.instanceMethod yX10_turnFollow ∈ tbl := in_3 109 rfl rfl
theorem ci_X10_turnReads : Cond.instanceMethod yX10_turnReads ∈ tbl := in_3 142 rfl rfl
theorem ci_X10_turnTold : Cond.instanceMethod yX10_turnTold ∈ tbl := in_5 59 rfl rfl
theorem ci_X10_weighedAt : Cond.instanceMethod yX10_weighedAt ∈ tbl := in_4 20 rfl rfl
theorem ci_X11_agreed : Cond.instanceMethod yX11_agreed ∈ tbl := in_5 41 rfl rfl
theorem ci_X11_beatsFit : Cond.instanceMethod yX11_beatsFit ∈ tbl := in_4 224 rfl rfl
theorem ci_X11_begin : Cond.instanceMethod yX11_begin ∈ tbl := in_4 208 rfl rfl
theorem ci_X11_init : Cond.instanceMethod yX11_init ∈ tbl := in_2 74 rfl rfl
theorem ci_X11_meets : Cond.instanceMethod yX11_meets ∈ tbl := in_4 229 rfl rfl
theorem ci_X11_put : Cond.instanceMethod yX11_put ∈ tbl := in_4 219 rfl rfl
theorem ci_X12_findWithBeats : Cond.instanceMethod yX12_findWithBeats ∈ tbl := in_4 189 rfl rfl
theorem ci_X12_goalsFromTape : Cond.instanceMethod yX12_goalsFromTape ∈ tbl := in_4 193 rfl rfl
theorem ci_X12_isBeginning : Cond.instanceMethod yX12_isBeginning ∈ tbl := in_4 33 rfl rfl
theorem ci_X12_isBeginningOrAll : Cond.instanceMethod yX12_isBeginningOrAll ∈ tbl := in_4 29 rfl rfl
theorem ci_X12_mostSayableWith : Cond.instanceMethod yX12_mostSayableWith ∈ tbl := in_5 50 rfl rfl
theorem ci_X12_putBytes : Cond.instanceMethod yX12_putBytes ∈ tbl := in_2 235 rfl rfl
theorem ci_X12_rowFromTape : Cond.instanceMethod yX12_rowFromTape ∈ tbl := in_4 0 rfl rfl
theorem ci_X13_bad : Cond.instanceMethod yX13_bad ∈ tbl := in_7 51 rfl rfl
theorem ci_X13_begin : Cond.instanceMethod yX13_begin ∈ tbl := in_8 34 rfl rfl
theorem ci_X13_bestFrom : Cond.instanceMethod yX13_bestFrom ∈ tbl := in_8 129 rfl rfl
theorem ci_X13_comes : Cond.instanceMethod yX13_comes ∈ tbl := in_7 199 rfl rfl
theorem ci_X13_comesFrom : Cond.instanceMethod yX13_comesFrom ∈ tbl := in_8 133 rfl rfl
theorem ci_X13_count : Cond.instanceMethod yX13_count ∈ tbl := in_7 212 rfl rfl
theorem ci_X13_countTorn : Cond.instanceMethod yX13_countTorn ∈ tbl := in_8 137 rfl rfl
theorem ci_X13_draw : Cond.instanceMethod yX13_draw ∈ tbl := in_7 153 rfl rfl
theorem ci_X13_ends : Cond.instanceMethod yX13_ends ∈ tbl := in_7 204 rfl rfl
theorem ci_X13_find : Cond.instanceMethod yX13_find ∈ tbl := in_7 63 rfl rfl
theorem ci_X13_four : Cond.instanceMethod yX13_four ∈ tbl := in_6 51 rfl rfl
theorem ci_X13_fresh : Cond.instanceMethod yX13_fresh ∈ tbl := in_7 55 rfl rfl
theorem ci_X13_hasBeats : Cond.instanceMethod yX13_hasBeats ∈ tbl := in_8 46 rfl rfl
theorem ci_X13_isBeginning : Cond.instanceMethod yX13_isBeginning ∈ tbl := in_7 162 rfl rfl
theorem ci_X13_isName : Cond.instanceMethod yX13_isName ∈ tbl := in_7 59 rfl rfl
theorem ci_X13_isSaying : Cond.instanceMethod yX13_isSaying ∈ tbl := in_7 117 rfl rfl
theorem ci_X13_isSign : Cond.instanceMethod yX13_isSign ∈ tbl := in_7 105 rfl rfl
theorem ci_X13_isStruck : Cond.instanceMethod yX13_isStruck ∈ tbl := in_7 174 rfl rfl
theorem ci_X13_isWord : Cond.instanceMethod yX13_isWord ∈ tbl := in_7 43 rfl rfl
theorem ci_X13_keep : Cond.instanceMethod yX13_keep ∈ tbl := in_7 137 rfl rfl
theorem ci_X13_keepRow : Cond.instanceMethod yX13_keepRow ∈ tbl := in_8 58 rfl rfl
theorem ci_X13_leave : Cond.instanceMethod yX13_leave ∈ tbl := in_7 170 rfl rfl
theorem ci_X13_leaveText : Cond.instanceMethod yX13_leaveText ∈ tbl := in_7 166 rfl rfl
theorem ci_X13_likely : Cond.instanceMethod yX13_likely ∈ tbl := in_8 125 rfl rfl
theorem ci_X13_line : Cond.instanceMethod yX13_line ∈ tbl := in_7 39 rfl rfl
theorem ci_X13_mayBe : Cond.instanceMethod yX13_mayBe ∈ tbl := in_8 121 rfl rfl
theorem ci_X13_meansNow : Cond.instanceMethod yX13_meansNow ∈ tbl := in_8 54 rfl rfl
theorem ci_X13_meant : Cond.instanceMethod yX13_meant ∈ tbl := in_7 194 rfl rfl
theorem ci_X13_meantTorn : Cond.instanceMethod yX13_meantTorn ∈ tbl := in_8 117 rfl rfl
theorem ci_X13_meetsGoals : Cond.instanceMethod yX13_meetsGoals ∈ tbl := in_8 50 rfl rfl
theorem ci_X13_mends : Cond.instanceMethod yX13_mends ∈ tbl := in_8 105 rfl rfl
theorem ci_X13_next : Cond.instanceMethod yX13_next ∈ tbl := in_7 25 rfl rfl
theorem ci_X13_nextRow : Cond.instanceMethod yX13_nextRow ∈ tbl := in_8 38 rfl rfl
theorem ci_X13_octet : Cond.instanceMethod yX13_octet ∈ tbl := in_7 145 rfl rfl
theorem ci_X13_peek : Cond.instanceMethod yX13_peek ∈ tbl := in_7 29 rfl rfl
theorem ci_X13_placesBehind : Cond.instanceMethod yX13_placesBehind ∈ tbl := in_8 109 rfl rfl
theorem ci_X13_plainTongue : Cond.instanceMethod yX13_plainTongue ∈ tbl := in_6 81 rfl rfl
theorem ci_X13_readClerk : Cond.instanceMethod yX13_readClerk ∈ tbl := in_7 94 rfl rfl
theorem ci_X13_readEdict : Cond.instanceMethod yX13_readEdict ∈ tbl := in_7 90 rfl rfl
theorem ci_X13_readFollow : Cond.instanceMethod yX13_readFollow ∈ tbl := in_7 67 rfl rfl
theorem ci_X13_readReads : Cond.instanceMethod yX13_readReads ∈ tbl := in_7 86 rfl rfl
theorem ci_X13_readSort : Cond.instanceMethod yX13_readSort ∈ tbl := in_7 47 rfl rfl
theorem ci_X13_readWord : Cond.instanceMethod yX13_readWord ∈ tbl := in_7 75 rfl rfl
theorem ci_X13_sayableIn : Cond.instanceMethod yX13_sayableIn ∈ tbl := in_8 86 rfl rfl
theorem ci_X13_settle : Cond.instanceMethod yX13_settle ∈ tbl := in_7 190 rfl rfl
theorem ci_X13_shortest : Cond.instanceMethod yX13_shortest ∈ tbl := in_8 30 rfl rfl
theorem ci_X13_sign : Cond.instanceMethod yX13_sign ∈ tbl := in_7 101 rfl rfl
theorem ci_X13_step : Cond.instanceMethod yX13_step ∈ tbl := in_8 42 rfl rfl
theorem ci_X13_taken : Cond.instanceMethod yX13_taken ∈ tbl := in_7 21 rfl rfl
theorem ci_X13_takes : Cond.instanceMethod yX13_takes ∈ tbl := in_7 79 rfl rfl
theorem ci_X13_takesGoals : Cond.instanceMethod yX13_takesGoals ∈ tbl := in_8 26 rfl rfl
theorem ci_X13_takesName : Cond.instanceMethod yX13_takesName ∈ tbl := in_7 71 rfl rfl
theorem ci_X13_textMeans : Cond.instanceMethod yX13_textMeans ∈ tbl := in_7 186 rfl rfl
theorem ci_X13_throwsIf : Cond.instanceMethod yX13_throwsIf ∈ tbl := in_7 121 rfl rfl
theorem ci_X1_init : Cond.instanceMethod yX1_init ∈ tbl := in_1 133 rfl rfl
theorem ci_X1_leftOf : Cond.instanceMethod yX1_leftOf ∈ tbl := in_5 97 rfl rfl
theorem ci_X1_strikes : Cond.instanceMethod yX1_strikes ∈ tbl := in_4 40 rfl rfl
theorem ci_X1_tell : Cond.instanceMethod yX1_tell ∈ tbl := in_1 155 rfl rfl
theorem ci_X2_collect : Cond.instanceMethod yX2_collect ∈ tbl := in_5 38 rfl rfl
theorem ci_X2_collectSafe : Cond.instanceMethod yX2_collectSafe ∈ tbl := in_5 32 rfl rfl
theorem ci_X2_foundRow : Cond.instanceMethod yX2_foundRow ∈ tbl := in_4 234 rfl rfl
theorem ci_X2_init : Cond.instanceMethod yX2_init ∈ tbl := in_2 68 rfl rfl
theorem ci_X2_seek : Cond.instanceMethod yX2_seek ∈ tbl := in_4 216 rfl rfl
theorem ci_X2_seekCheaper : Cond.instanceMethod yX2_seekCheaper ∈ tbl := in_5 7 rfl rfl
theorem ci_X2_seekCheapest : Cond.instanceMethod yX2_seekCheapest ∈ tbl := in_5 2 rfl rfl
theorem ci_X2_seekMended : Cond.instanceMethod yX2_seekMended ∈ tbl := in_5 84 rfl rfl
theorem ci_X2_seekShortest : Cond.instanceMethod yX2_seekShortest ∈ tbl := in_4 204 rfl rfl
theorem ci_X2_seekShortestBy : Cond.instanceMethod yX2_seekShortestBy ∈ tbl := in_5 74 rfl rfl
theorem ci_X2_seekWithIdle : Cond.instanceMethod yX2_seekWithIdle ∈ tbl := in_5 89 rfl rfl
theorem ci_X2_want : Cond.instanceMethod yX2_want ∈ tbl := in_4 196 rfl rfl
theorem ci_X2_wantBeats : Cond.instanceMethod yX2_wantBeats ∈ tbl := in_4 200 rfl rfl
theorem ci_X2_wantByAll : Cond.instanceMethod yX2_wantByAll ∈ tbl := in_5 19 rfl rfl
theorem ci_X3_beatsBy : Cond.instanceMethod yX3_beatsBy ∈ tbl := in_4 157 rfl rfl
theorem ci_X3_countReadings : Cond.instanceMethod yX3_countReadings ∈ tbl := in_4 77 rfl rfl
theorem ci_X3_countWith : Cond.instanceMethod yX3_countWith ∈ tbl := in_4 83 rfl rfl
theorem ci_X3_init : Cond.instanceMethod yX3_init ∈ tbl := in_2 34 rfl rfl
theorem ci_X3_lettersBefore : Cond.instanceMethod yX3_lettersBefore ∈ tbl := in_4 177 rfl rfl
theorem ci_X3_meanTheSame : Cond.instanceMethod yX3_meanTheSame ∈ tbl := in_4 139 rfl rfl
theorem ci_X3_meansBy : Cond.instanceMethod yX3_meansBy ∈ tbl := in_4 57 rfl rfl
theorem ci_X3_readFirst : Cond.instanceMethod yX3_readFirst ∈ tbl := in_4 98 rfl rfl
theorem ci_X3_sortRead : Cond.instanceMethod yX3_sortRead ∈ tbl := in_4 108 rfl rfl
theorem ci_X3_strike : Cond.instanceMethod yX3_strike ∈ tbl := in_4 36 rfl rfl
theorem ci_X3_strikeLetters : Cond.instanceMethod yX3_strikeLetters ∈ tbl := in_4 170 rfl rfl
theorem ci_X3_turnsOf : Cond.instanceMethod yX3_turnsOf ∈ tbl := in_4 116 rfl rfl
theorem ci_X3_waysOfLetters : Cond.instanceMethod yX3_waysOfLetters ∈ tbl := in_4 165 rfl rfl
theorem ci_X5_begin : Cond.instanceMethod yX5_begin ∈ tbl := in_3 185 rfl rfl
theorem ci_X5_copyFrom : Cond.instanceMethod yX5_copyFrom ∈ tbl := in_5 184 rfl rfl
theorem ci_X5_init : Cond.instanceMethod yX5_init ∈ tbl := in_1 121 rfl rfl
theorem ci_X6_begin : Cond.instanceMethod yX6_begin ∈ tbl := in_3 15 rfl rfl
theorem ci_X6_indexOfName : Cond.instanceMethod yX6_indexOfName ∈ tbl := in_3 76 rfl rfl
theorem ci_X6_init : Cond.instanceMethod yX6_init ∈ tbl := in_1 63 rfl rfl
theorem ci_X6_isBeginsOrEnds : Cond.instanceMethod yX6_isBeginsOrEnds ∈ tbl := in_3 80 rfl rfl
theorem ci_X6_isChange : Cond.instanceMethod yX6_isChange ∈ tbl := in_3 147 rfl rfl
theorem ci_X6_isNameHere : Cond.instanceMethod yX6_isNameHere ∈ tbl := in_3 72 rfl rfl
theorem ci_X6_numberHere : Cond.instanceMethod yX6_numberHere ∈ tbl := in_3 125 rfl rfl
theorem ci_X6_readChange : Cond.instanceMethod yX6_readChange ∈ tbl := in_3 157 rfl rfl
theorem ci_X6_readClerk : Cond.instanceMethod yX6_readClerk ∈ tbl := in_3 170 rfl rfl
theorem ci_X6_readClose : Cond.instanceMethod yX6_readClose ∈ tbl := in_3 90 rfl rfl
theorem ci_X6_readEdict : Cond.instanceMethod yX6_readEdict ∈ tbl := in_3 165 rfl rfl
theorem ci_X6_readFollow : Cond.instanceMethod yX6_readFollow ∈ tbl := in_3 98 rfl rfl
theorem ci_X6_readLine : Cond.instanceMethod yX6_readLine ∈ tbl := in_3 47 rfl rfl
theorem ci_X6_readMark : Cond.instanceMethod yX6_readMark ∈ tbl := in_3 94 rfl rfl
theorem ci_X6_readNewName : Cond.instanceMethod yX6_readNewName ∈ tbl := in_3 67 rfl rfl
theorem ci_X6_readOption : Cond.instanceMethod yX6_readOption ∈ tbl := in_3 121 rfl rfl
theorem ci_X6_readReads : Cond.instanceMethod yX6_readReads ∈ tbl := in_3 135 rfl rfl
theorem ci_X6_readSort : Cond.instanceMethod yX6_readSort ∈ tbl := in_3 63 rfl rfl
theorem ci_X6_readText : Cond.instanceMethod yX6_readText ∈ tbl := in_3 224 rfl rfl
theorem ci_X6_readTongue : Cond.instanceMethod yX6_readTongue ∈ tbl := in_3 10 rfl rfl
theorem ci_X6_readWord : Cond.instanceMethod yX6_readWord ∈ tbl := in_3 115 rfl rfl
theorem ci_X6_refuse : Cond.instanceMethod yX6_refuse ∈ tbl := in_3 51 rfl rfl
theorem ci_X6_toldHere : Cond.instanceMethod yX6_toldHere ∈ tbl := in_3 102 rfl rfl
theorem ci_X7_atOrNone : Cond.instanceMethod yX7_atOrNone ∈ tbl := in_4 49 rfl rfl
theorem ci_X7_copyFrom : Cond.instanceMethod yX7_copyFrom ∈ tbl := in_3 229 rfl rfl
theorem ci_X7_init : Cond.instanceMethod yX7_init ∈ tbl := in_1 35 rfl rfl
theorem ci_X7_put : Cond.instanceMethod yX7_put ∈ tbl := in_2 238 rfl rfl
theorem ci_X8_chooseRow : Cond.instanceMethod yX8_chooseRow ∈ tbl := in_5 148 rfl rfl
theorem ci_X8_countAll : Cond.instanceMethod yX8_countAll ∈ tbl := in_5 110 rfl rfl
theorem ci_X8_countWith : Cond.instanceMethod yX8_countWith ∈ tbl := in_5 124 rfl rfl
theorem ci_X8_firstAt : Cond.instanceMethod yX8_firstAt ∈ tbl := in_5 152 rfl rfl
theorem ci_X8_init : Cond.instanceMethod yX8_init ∈ tbl := in_2 138 rfl rfl
theorem ci_X8_look : Cond.instanceMethod yX8_look ∈ tbl := in_5 102 rfl rfl
theorem ci_X8_mayStandAt : Cond.instanceMethod yX8_mayStandAt ∈ tbl := in_5 120 rfl rfl
theorem ci_X8_sortsBehind : Cond.instanceMethod yX8_sortsBehind ∈ tbl := in_5 156 rfl rfl
theorem ci_X8_sumWhatIsAhead : Cond.instanceMethod yX8_sumWhatIsAhead ∈ tbl := in_5 115 rfl rfl
theorem ci_X8_tellSure : Cond.instanceMethod yX8_tellSure ∈ tbl := in_5 131 rfl rfl
theorem ci_X8_weighAll : Cond.instanceMethod yX8_weighAll ∈ tbl := in_5 136 rfl rfl
theorem ci_X8_weighWith : Cond.instanceMethod yX8_weighWith ∈ tbl := in_5 140 rfl rfl
theorem ci_X8_weightAt : Cond.instanceMethod yX8_weightAt ∈ tbl := in_5 144 rfl rfl
theorem ci_X9_advance : Cond.instanceMethod yX9_advance ∈ tbl := in_3 22 rfl rfl
theorem ci_X9_begin : Cond.instanceMethod yX9_begin ∈ tbl := in_3 18 rfl rfl
theorem ci_X9_init : Cond.instanceMethod yX9_init ∈ tbl := in_1 69 rfl rfl
theorem ci_X9_isTooLong : Cond.instanceMethod yX9_isTooLong ∈ tbl := in_3 173 rfl rfl
theorem ci_X9_kindOf : Cond.instanceMethod yX9_kindOf ∈ tbl := in_3 37 rfl rfl
theorem cl_10_92 : Cond.constantLong "StruckWords$Tongue" 92 255 ∈ tbl := in_3 112 rfl rfl
theorem cl_11_61 : Cond.constantLong "StruckWords$Walk" 61 1099511627776 ∈ tbl := in_4 212 rfl rfl
theorem cl_12_194 : Cond.constantLong "StruckWords" 194 (-1) ∈ tbl := in_4 92 rfl rfl
theorem cl_13_127 : Cond.constantLong "StruckWordsModel" 127 1936683636 ∈ tbl := in_6 63 rfl rfl
theorem cl_13_129 : Cond.constantLong "StruckWordsModel" 129 108187666181747 ∈ tbl := in_6 64 rfl rfl
theorem cl_13_131 : Cond.constantLong "StruckWordsModel" 131 1701733491 ∈ tbl := in_6 65 rfl rfl
theorem cl_13_133 : Cond.constantLong "StruckWordsModel" 133 1835102827 ∈ tbl := in_6 66 rfl rfl
theorem cl_13_135 : Cond.constantLong "StruckWordsModel" 135 112628746448759 ∈ tbl := in_6 67 rfl rfl
theorem cl_13_137 : Cond.constantLong "StruckWordsModel" 137 2003792484 ∈ tbl := in_6 68 rfl rfl
theorem cl_13_139 : Cond.constantLong "StruckWordsModel" 139 422607680627 ∈ tbl := in_6 69 rfl rfl
theorem cl_13_141 : Cond.constantLong "StruckWordsModel" 141 131277443786867 ∈ tbl := in_6 70 rfl rfl
theorem cl_13_143 : Cond.constantLong "StruckWordsModel" 143 427071599731 ∈ tbl := in_6 71 rfl rfl
theorem cl_13_145 : Cond.constantLong "StruckWordsModel" 145 1768189029 ∈ tbl := in_6 72 rfl rfl
theorem cl_13_147 : Cond.constantLong "StruckWordsModel" 147 491327153267 ∈ tbl := in_6 73 rfl rfl
theorem cl_13_149 : Cond.constantLong "StruckWordsModel" 149 1936028787 ∈ tbl := in_6 74 rfl rfl
theorem cl_13_151 : Cond.constantLong "StruckWordsModel" 151 109317208502899 ∈ tbl := in_6 75 rfl rfl
theorem cl_13_153 : Cond.constantLong "StruckWordsModel" 153 500186639987 ∈ tbl := in_6 76 rfl rfl
theorem cl_13_155 : Cond.constantLong "StruckWordsModel" 155 435476325236 ∈ tbl := in_6 77 rfl rfl
theorem cl_13_157 : Cond.constantLong "StruckWordsModel" 157 427020350059 ∈ tbl := in_6 78 rfl rfl
theorem cl_13_316 : Cond.constantLong "StruckWordsModel" 316 (-1) ∈ tbl := in_7 196 rfl rfl
theorem cl_13_318 : Cond.constantLong "StruckWordsModel" 318 255 ∈ tbl := in_7 201 rfl rfl
theorem cl_13_351 : Cond.constantLong "StruckWordsModel" 351 1000000000000000 ∈ tbl := in_8 19 rfl rfl
theorem cl_3_145 : Cond.constantLong "StruckWords$Judge" 145 1000000000000000 ∈ tbl := in_4 179 rfl rfl
theorem cl_3_71 : Cond.constantLong "StruckWords$Judge" 71 1099511627776 ∈ tbl := in_4 60 rfl rfl
theorem cl_6_143 : Cond.constantLong "StruckWords$Reader" 143 280375465082880 ∈ tbl := in_3 86 rfl rfl
theorem cl_6_149 : Cond.constantLong "StruckWords$Reader" 149 255 ∈ tbl := in_3 87 rfl rfl
theorem cn_12_169 : Cond.constant "StruckWords" 169 1103515245 ∈ tbl := in_4 18 rfl rfl
theorem cn_13_290 : Cond.constant "StruckWordsModel" 290 1103515245 ∈ tbl := in_7 155 rfl rfl
theorem cn_91_265 : Cond.constant "java/lang/Integer" 265 1431655765 ∈ tbl := in_4 149 rfl rfl
theorem cn_91_266 : Cond.constant "java/lang/Integer" 266 858993459 ∈ tbl := in_4 150 rfl rfl
theorem cn_91_267 : Cond.constant "java/lang/Integer" 267 252645135 ∈ tbl := in_4 151 rfl rfl
theorem cs_X10_allWeighs : Cond.selects yX10_allWeighs.cls yX10_allWeighs yX10_allWeighs ∈ tbl := in_4 16 rfl rfl
theorem cs_X10_change : Cond.selects yX10_change.cls yX10_change yX10_change ∈ tbl := in_3 161 rfl rfl
theorem cs_X10_clear : Cond.selects yX10_clear.cls yX10_clear yX10_clear ∈ tbl := in_1 152 rfl rfl
theorem cs_X10_copyFrom : Cond.selects yX10_copyFrom.cls yX10_copyFrom yX10_copyFrom ∈ tbl := in_3 190 rfl rfl
theorem cs_X10_hasSaying : Cond.selects yX10_hasSaying.cls yX10_hasSaying yX10_hasSaying ∈ tbl := in_3 208 rfl rfl
theorem cs_X10_hasSort : Cond.selects yX10_hasSort.cls yX10_hasSort yX10_hasSort ∈ tbl := in_3 212 rfl rfl
theorem cs_X10_isTold : Cond.selects yX10_isTold.cls yX10_isTold yX10_isTold ∈ tbl := in_5 54 rfl rfl
theorem cs_X10_made : Cond.selects yX10_made.cls yX10_made yX10_made ∈ tbl := in_3 217 rfl rfl
theorem cs_X10_madeOfFour : Cond.selects yX10_madeOfFour.cls yX10_madeOfFour yX10_madeOfFour ∈ tbl := in_p2 (q := (⟨"StruckWords$Tongue", "madeOfFour", "(II)I"⟩, 15)) 6 rfl
theorem cs_X10_mayEnd : Cond.selects yX10_mayEnd.cls yX10_mayEnd yX10_mayEnd ∈ tbl := in_4 90 rfl rfl
theorem cs_X10_mayFollow : Cond.selects yX10_mayFollow.cls yX10_mayFollow yX10_mayFollow ∈ tbl := in_3 106 rfl rfl
theorem cs_X10_meant : Cond.selects yX10_meant.cls yX10_meant yX10_meant ∈ tbl := in_4 70 rfl rfl
theorem cs_X10_readAlike : Cond.selects yX10_readAlike.cls yX10_readAlike yX10_readAlike ∈ tbl := in_4 8 rfl rfl
theorem cs_X10_readsAs : Cond.selects yX10_readsAs.cls yX10_readsAs yX10_readsAs ∈ tbl := in_3 139 rfl rfl
theorem cs_X10_settle : Cond.selects yX10_settle.cls yX10_settle yX10_settle ∈ tbl := in_3 178 rfl rfl
theorem cs_X10_stepped : Cond.selects yX10_stepped.cls yX10_stepped yX10_stepped ∈ tbl := in_4 63 rfl rfl
theorem cs_X10_turnFollow : Cond.selects yX10_turnFollow.cls yX10_turnFollow yX10_turnFollow ∈ tbl := in_3 110 rfl rfl
theorem cs_X10_turnReads : Cond.selects yX10_turnReads.cls yX10_turnReads yX10_turnReads ∈ tbl := in_3 143 rfl rfl
theorem cs_X10_turnTold : Cond.selects yX10_turnTold.cls yX10_turnTold yX10_turnTold ∈ tbl := in_5 60 rfl rfl
theorem cs_X10_weighedAt : Cond.selects yX10_weighedAt.cls yX10_weighedAt yX10_weighedAt ∈ tbl := in_4 21 rfl rfl
theorem cs_X11_agreed : Cond.selects yX11_agreed.cls yX11_agreed yX11_agreed ∈ tbl := in_5 42 rfl rfl
theorem cs_X11_beatsFit : Cond.selects yX11_beatsFit.cls yX11_beatsFit yX11_beatsFit ∈ tbl := in_p3 (q := (⟨"StruckWords$Walk", "beatsFit", "(II)Z"⟩, 9)) 0 rfl
theorem cs_X11_begin : Cond.selects yX11_begin.cls yX11_begin yX11_begin ∈ tbl := in_4 209 rfl rfl
theorem cs_X11_meets : Cond.selects yX11_meets.cls yX11_meets yX11_meets ∈ tbl := in_p3 (q := (⟨"StruckWords$Walk", "meets", "(JI)Z"⟩, 9)) 1 rfl
theorem cs_X11_put : Cond.selects yX11_put.cls yX11_put yX11_put ∈ tbl := in_4 220 rfl rfl
theorem cs_X12_findWithBeats : Cond.selects yX12_findWithBeats.cls yX12_findWithBeats yX12_findWithBeats ∈ tbl := in_p2 (q := (⟨"StruckWords", "findWithBeats", "(II)I"⟩, 12)) 13 rfl
theorem cs_X12_goalsFromTape : Cond.selects yX12_goalsFromTape.cls yX12_goalsFromTape yX12_goalsFromTape ∈ tbl := in_p2 (q := (⟨"StruckWords", "goalsFromTape", "()Z"⟩, 12)) 14 rfl
theorem cs_X12_isBeginning : Cond.selects yX12_isBeginning.cls yX12_isBeginning yX12_isBeginning ∈ tbl := in_p2 (q := (⟨"StruckWords", "isBeginning", "(I)Z"⟩, 12)) 9 rfl
theorem cs_X12_isBeginningOrAll : Cond.selects yX12_isBeginningOrAll.cls yX12_isBeginningOrAll yX12_isBeginningOrAll ∈ tbl := in_p2 (q := (⟨"StruckWords", "isBeginningOrAll", "(I)Z"⟩, 12)) 8 rfl
theorem cs_X12_mostSayableWith : Cond.selects yX12_mostSayableWith.cls yX12_mostSayableWith yX12_mostSayableWith ∈ tbl := in_p3 (q := (⟨"StruckWords", "mostSayableWith", "(ZI)I"⟩, 12)) 4 rfl
theorem cs_X12_putBytes : Cond.selects yX12_putBytes.cls yX12_putBytes yX12_putBytes ∈ tbl := in_p1 (q := (⟨"StruckWords", "putBytes", "(I)V"⟩, 12)) 0 rfl
theorem cs_X12_rowFromTape : Cond.selects yX12_rowFromTape.cls yX12_rowFromTape yX12_rowFromTape ∈ tbl := in_p2 (q := (⟨"StruckWords", "rowFromTape", "(I)Z"⟩, 12)) 7 rfl
theorem cs_X13_bad : Cond.selects yX13_bad.cls yX13_bad yX13_bad ∈ tbl := in_p4 (q := (⟨"StruckWordsModel", "bad", "(I)Z"⟩, 57)) 10 rfl
theorem cs_X13_begin : Cond.selects yX13_begin.cls yX13_begin yX13_begin ∈ tbl := in_p6 (q := (⟨"StruckWordsModel", "begin", "(I)V"⟩, 57)) 8 rfl
theorem cs_X13_bestFrom : Cond.selects yX13_bestFrom.cls yX13_bestFrom yX13_bestFrom ∈ tbl := in_p7 (q := (⟨"StruckWordsModel", "bestFrom", "(II)J"⟩, 57)) 5 rfl
theorem cs_X13_comes : Cond.selects yX13_comes.cls yX13_comes yX13_comes ∈ tbl := in_p6 (q := (⟨"StruckWordsModel", "comes", "(JI)J"⟩, 57)) 3 rfl
theorem cs_X13_comesFrom : Cond.selects yX13_comesFrom.cls yX13_comesFrom yX13_comesFrom ∈ tbl := in_p7 (q := (⟨"StruckWordsModel", "comesFrom", "(III)Z"⟩, 57)) 6 rfl
theorem cs_X13_count : Cond.selects yX13_count.cls yX13_count yX13_count ∈ tbl := in_p6 (q := (⟨"StruckWordsModel", "count", "()V"⟩, 57)) 5 rfl
theorem cs_X13_countTorn : Cond.selects yX13_countTorn.cls yX13_countTorn yX13_countTorn ∈ tbl := in_p7 (q := (⟨"StruckWordsModel", "countTorn", "(I)J"⟩, 57)) 7 rfl
theorem cs_X13_draw : Cond.selects yX13_draw.cls yX13_draw yX13_draw ∈ tbl := in_p5 (q := (⟨"StruckWordsModel", "draw", "(I)I"⟩, 57)) 11 rfl
theorem cs_X13_ends : Cond.selects yX13_ends.cls yX13_ends yX13_ends ∈ tbl := in_p6 (q := (⟨"StruckWordsModel", "ends", "(J)I"⟩, 57)) 4 rfl
theorem cs_X13_find : Cond.selects yX13_find.cls yX13_find yX13_find ∈ tbl := in_p4 (q := (⟨"StruckWordsModel", "find", "(II)I"⟩, 57)) 13 rfl
theorem cs_X13_four : Cond.selects yX13_four.cls yX13_four yX13_four ∈ tbl := in_p4 (q := (⟨"StruckWordsModel", "four", "(I)V"⟩, 57)) 2 rfl
theorem cs_X13_fresh : Cond.selects yX13_fresh.cls yX13_fresh yX13_fresh ∈ tbl := in_p4 (q := (⟨"StruckWordsModel", "fresh", "(I)Z"⟩, 57)) 11 rfl
theorem cs_X13_hasBeats : Cond.selects yX13_hasBeats.cls yX13_hasBeats yX13_hasBeats ∈ tbl := in_p6 (q := (⟨"StruckWordsModel", "hasBeats", "(I)Z"⟩, 57)) 11 rfl
theorem cs_X13_isBeginning : Cond.selects yX13_isBeginning.cls yX13_isBeginning yX13_isBeginning ∈ tbl := in_p5 (q := (⟨"StruckWordsModel", "isBeginning", "(I)Z"⟩, 57)) 12 rfl
theorem cs_X13_isName : Cond.selects yX13_isName.cls yX13_isName yX13_isName ∈ tbl := in_p4 (q := (⟨"StruckWordsModel", "isName", "()Z"⟩, 57)) 12 rfl
theorem cs_X13_isSaying : Cond.selects yX13_isSaying.cls yX13_isSaying yX13_isSaying ∈ tbl := in_p5 (q := (⟨"StruckWordsModel", "isSaying", "(I)Z"⟩, 57)) 7 rfl
theorem cs_X13_isSign : Cond.selects yX13_isSign.cls yX13_isSign yX13_isSign ∈ tbl := in_p5 (q := (⟨"StruckWordsModel", "isSign", "(I)Z"⟩, 57)) 6 rfl
theorem cs_X13_isStruck : Cond.selects yX13_isStruck.cls yX13_isStruck yX13_isStruck ∈ tbl := in_p5 (q := (⟨"StruckWordsModel", "isStruck", "(II)Z"⟩, 57)) 15 rfl
theorem cs_X13_isWord : Cond.selects yX13_isWord.cls yX13_isWord yX13_isWord ∈ tbl := in_p4 (q := (⟨"StruckWordsModel", "isWord", "(J)Z"⟩, 57)) 8 rfl
theorem cs_X13_keep : Cond.selects yX13_keep.cls yX13_keep yX13_keep ∈ tbl := in_p5 (q := (⟨"StruckWordsModel", "keep", "([II)V"⟩, 57)) 9 rfl
theorem cs_X13_keepRow : Cond.selects yX13_keepRow.cls yX13_keepRow yX13_keepRow ∈ tbl := in_p6 (q := (⟨"StruckWordsModel", "keepRow", "(I)I"⟩, 57)) 14 rfl
theorem cs_X13_leave : Cond.selects yX13_leave.cls yX13_leave yX13_leave ∈ tbl := in_p5 (q := (⟨"StruckWordsModel", "leave", "([III)V"⟩, 57)) 14 rfl
theorem cs_X13_leaveText : Cond.selects yX13_leaveText.cls yX13_leaveText yX13_leaveText ∈ tbl := in_p5 (q := (⟨"StruckWordsModel", "leaveText", "(I)V"⟩, 57)) 13 rfl
theorem cs_X13_likely : Cond.selects yX13_likely.cls yX13_likely yX13_likely ∈ tbl := in_p7 (q := (⟨"StruckWordsModel", "likely", "(I)V"⟩, 57)) 4 rfl
theorem cs_X13_line : Cond.selects yX13_line.cls yX13_line yX13_line ∈ tbl := in_p4 (q := (⟨"StruckWordsModel", "line", "()Z"⟩, 57)) 7 rfl
theorem cs_X13_mayBe : Cond.selects yX13_mayBe.cls yX13_mayBe yX13_mayBe ∈ tbl := in_p7 (q := (⟨"StruckWordsModel", "mayBe", "(II)Z"⟩, 57)) 3 rfl
theorem cs_X13_meansNow : Cond.selects yX13_meansNow.cls yX13_meansNow yX13_meansNow ∈ tbl := in_p6 (q := (⟨"StruckWordsModel", "meansNow", "(I)I"⟩, 57)) 13 rfl
theorem cs_X13_meant : Cond.selects yX13_meant.cls yX13_meant yX13_meant ∈ tbl := in_p6 (q := (⟨"StruckWordsModel", "meant", "([II)I"⟩, 57)) 2 rfl
theorem cs_X13_meantTorn : Cond.selects yX13_meantTorn.cls yX13_meantTorn yX13_meantTorn ∈ tbl := in_p7 (q := (⟨"StruckWordsModel", "meantTorn", "(I)I"⟩, 57)) 2 rfl
theorem cs_X13_meetsGoals : Cond.selects yX13_meetsGoals.cls yX13_meetsGoals yX13_meetsGoals ∈ tbl := in_p6 (q := (⟨"StruckWordsModel", "meetsGoals", "()Z"⟩, 57)) 12 rfl
theorem cs_X13_mends : Cond.selects yX13_mends.cls yX13_mends yX13_mends ∈ tbl := in_p7 (q := (⟨"StruckWordsModel", "mends", "(I)Z"⟩, 57)) 0 rfl
theorem cs_X13_next : Cond.selects yX13_next.cls yX13_next yX13_next ∈ tbl := in_p4 (q := (⟨"StruckWordsModel", "next", "()V"⟩, 57)) 5 rfl
theorem cs_X13_nextRow : Cond.selects yX13_nextRow.cls yX13_nextRow yX13_nextRow ∈ tbl := in_p6 (q := (⟨"StruckWordsModel", "nextRow", "()Z"⟩, 57)) 9 rfl
theorem cs_X13_octet : Cond.selects yX13_octet.cls yX13_octet yX13_octet ∈ tbl := in_p5 (q := (⟨"StruckWordsModel", "octet", "(I)I"⟩, 57)) 10 rfl
theorem cs_X13_peek : Cond.selects yX13_peek.cls yX13_peek yX13_peek ∈ tbl := in_p4 (q := (⟨"StruckWordsModel", "peek", "()I"⟩, 57)) 6 rfl
theorem cs_X13_placesBehind : Cond.selects yX13_placesBehind.cls yX13_placesBehind yX13_placesBehind ∈ tbl := in_p7 (q := (⟨"StruckWordsModel", "placesBehind", "(IIII)I"⟩, 57)) 1 rfl
theorem cs_X13_plainTongue : Cond.selects yX13_plainTongue.cls yX13_plainTongue yX13_plainTongue ∈ tbl := in_p4 (q := (⟨"StruckWordsModel", "plainTongue", "()V"⟩, 57)) 3 rfl
theorem cs_X13_readClerk : Cond.selects yX13_readClerk.cls yX13_readClerk yX13_readClerk ∈ tbl := in_p5 (q := (⟨"StruckWordsModel", "readClerk", "()Z"⟩, 57)) 4 rfl
theorem cs_X13_readEdict : Cond.selects yX13_readEdict.cls yX13_readEdict yX13_readEdict ∈ tbl := in_p5 (q := (⟨"StruckWordsModel", "readEdict", "()Z"⟩, 57)) 3 rfl
theorem cs_X13_readFollow : Cond.selects yX13_readFollow.cls yX13_readFollow yX13_readFollow ∈ tbl := in_p4 (q := (⟨"StruckWordsModel", "readFollow", "()Z"⟩, 57)) 14 rfl
theorem cs_X13_readReads : Cond.selects yX13_readReads.cls yX13_readReads yX13_readReads ∈ tbl := in_p5 (q := (⟨"StruckWordsModel", "readReads", "()Z"⟩, 57)) 2 rfl
theorem cs_X13_readSort : Cond.selects yX13_readSort.cls yX13_readSort yX13_readSort ∈ tbl := in_p4 (q := (⟨"StruckWordsModel", "readSort", "()Z"⟩, 57)) 9 rfl
theorem cs_X13_readWord : Cond.selects yX13_readWord.cls yX13_readWord yX13_readWord ∈ tbl := in_p5 (q := (⟨"StruckWordsModel", "readWord", "()Z"⟩, 57)) 0 rfl
theorem cs_X13_sayableIn : Cond.selects yX13_sayableIn.cls yX13_sayableIn yX13_sayableIn ∈ tbl := in_p6 (q := (⟨"StruckWordsModel", "sayableIn", "(I)I"⟩, 57)) 15 rfl
theorem cs_X13_settle : Cond.selects yX13_settle.cls yX13_settle yX13_settle ∈ tbl := in_p6 (q := (⟨"StruckWordsModel", "settle", "()V"⟩, 57)) 1 rfl
theorem cs_X13_shortest : Cond.selects yX13_shortest.cls yX13_shortest yX13_shortest ∈ tbl := in_p6 (q := (⟨"StruckWordsModel", "shortest", "(II)I"⟩, 57)) 7 rfl
theorem cs_X13_sign : Cond.selects yX13_sign.cls yX13_sign yX13_sign ∈ tbl := in_p5 (q := (⟨"StruckWordsModel", "sign", "(I)Z"⟩, 57)) 5 rfl
theorem cs_X13_step : Cond.selects yX13_step.cls yX13_step yX13_step ∈ tbl := in_p6 (q := (⟨"StruckWordsModel", "step", "(I)V"⟩, 57)) 10 rfl
theorem cs_X13_taken : Cond.selects yX13_taken.cls yX13_taken yX13_taken ∈ tbl := in_p4 (q := (⟨"StruckWordsModel", "taken", "(I)V"⟩, 57)) 4 rfl
theorem cs_X13_takes : Cond.selects yX13_takes.cls yX13_takes yX13_takes ∈ tbl := in_p5 (q := (⟨"StruckWordsModel", "takes", "(II)Z"⟩, 57)) 1 rfl
theorem cs_X13_takesGoals : Cond.selects yX13_takesGoals.cls yX13_takesGoals yX13_takesGoals ∈ tbl := in_p6 (q := (⟨"StruckWordsModel", "takesGoals", "()Z"⟩, 57)) 6 rfl
theorem cs_X13_takesName : Cond.selects yX13_takesName.cls yX13_takesName yX13_takesName ∈ tbl := in_p4 (q := (⟨"StruckWordsModel", "takesName", "(II)Z"⟩, 57)) 15 rfl
theorem cs_X13_textMeans : Cond.selects yX13_textMeans.cls yX13_textMeans yX13_textMeans ∈ tbl := in_p6 (q := (⟨"StruckWordsModel", "textMeans", "(I)I"⟩, 57)) 0 rfl
theorem cs_X13_throwsIf : Cond.selects yX13_throwsIf.cls yX13_throwsIf yX13_throwsIf ∈ tbl := in_p5 (q := (⟨"StruckWordsModel", "throwsIf", "(Z)Z"⟩, 57)) 8 rfl
theorem cs_X1_leftOf : Cond.selects yX1_leftOf.cls yX1_leftOf yX1_leftOf ∈ tbl := in_5 98 rfl rfl
theorem cs_X1_strikes : Cond.selects yX1_strikes.cls yX1_strikes yX1_strikes ∈ tbl := in_4 41 rfl rfl
theorem cs_X1_tell : Cond.selects yX1_tell.cls yX1_tell yX1_tell ∈ tbl := in_1 156 rfl rfl
theorem cs_X2_collect : Cond.selects yX2_collect.cls yX2_collect yX2_collect ∈ tbl := in_p3 (q := (⟨"StruckWords$Finder", "collect", "(II)I"⟩, 6)) 3 rfl
theorem cs_X2_collectSafe : Cond.selects yX2_collectSafe.cls yX2_collectSafe yX2_collectSafe ∈ tbl := in_5 33 rfl rfl
theorem cs_X2_foundRow : Cond.selects yX2_foundRow.cls yX2_foundRow yX2_foundRow ∈ tbl := in_4 235 rfl rfl
theorem cs_X2_seek : Cond.selects yX2_seek.cls yX2_seek yX2_seek ∈ tbl := in_p2 (q := (⟨"StruckWords$Finder", "seek", "(I)Z"⟩, 6)) 15 rfl
theorem cs_X2_seekCheaper : Cond.selects yX2_seekCheaper.cls yX2_seekCheaper yX2_seekCheaper ∈ tbl := in_p3 (q := (⟨"StruckWords$Finder", "seekCheaper", "(II)V"⟩, 6)) 2 rfl
theorem cs_X2_seekCheapest : Cond.selects yX2_seekCheapest.cls yX2_seekCheapest yX2_seekCheapest ∈ tbl := in_5 3 rfl rfl
theorem cs_X2_seekMended : Cond.selects yX2_seekMended.cls yX2_seekMended yX2_seekMended ∈ tbl := in_5 85 rfl rfl
theorem cs_X2_seekShortest : Cond.selects yX2_seekShortest.cls yX2_seekShortest yX2_seekShortest ∈ tbl := in_4 205 rfl rfl
theorem cs_X2_seekShortestBy : Cond.selects yX2_seekShortestBy.cls yX2_seekShortestBy yX2_seekShortestBy ∈ tbl := in_5 75 rfl rfl
theorem cs_X2_seekWithIdle : Cond.selects yX2_seekWithIdle.cls yX2_seekWithIdle yX2_seekWithIdle ∈ tbl := in_p3 (q := (⟨"StruckWords$Finder", "seekWithIdle", "(II)Z"⟩, 6)) 5 rfl
theorem cs_X2_want : Cond.selects yX2_want.cls yX2_want yX2_want ∈ tbl := in_4 197 rfl rfl
theorem cs_X2_wantBeats : Cond.selects yX2_wantBeats.cls yX2_wantBeats yX2_wantBeats ∈ tbl := in_4 201 rfl rfl
theorem cs_X2_wantByAll : Cond.selects yX2_wantByAll.cls yX2_wantByAll yX2_wantByAll ∈ tbl := in_5 20 rfl rfl
theorem cs_X3_beatsBy : Cond.selects yX3_beatsBy.cls yX3_beatsBy yX3_beatsBy ∈ tbl := in_4 158 rfl rfl
theorem cs_X3_countReadings : Cond.selects yX3_countReadings.cls yX3_countReadings yX3_countReadings ∈ tbl := in_4 78 rfl rfl
theorem cs_X3_countWith : Cond.selects yX3_countWith.cls yX3_countWith yX3_countWith ∈ tbl := in_p2 (q := (⟨"StruckWords$Judge", "countWith", "(LStruckWords$Tongue;I)V"⟩, 8)) 10 rfl
theorem cs_X3_lettersBefore : Cond.selects yX3_lettersBefore.cls yX3_lettersBefore yX3_lettersBefore ∈ tbl := in_p2 (q := (⟨"StruckWords$Judge", "lettersBefore", "(II)I"⟩, 8)) 12 rfl
theorem cs_X3_meanTheSame : Cond.selects yX3_meanTheSame.cls yX3_meanTheSame yX3_meanTheSame ∈ tbl := in_4 140 rfl rfl
theorem cs_X3_meansBy : Cond.selects yX3_meansBy.cls yX3_meansBy yX3_meansBy ∈ tbl := in_4 58 rfl rfl
theorem cs_X3_readFirst : Cond.selects yX3_readFirst.cls yX3_readFirst yX3_readFirst ∈ tbl := in_4 99 rfl rfl
theorem cs_X3_sortRead : Cond.selects yX3_sortRead.cls yX3_sortRead yX3_sortRead ∈ tbl := in_4 109 rfl rfl
theorem cs_X3_strike : Cond.selects yX3_strike.cls yX3_strike yX3_strike ∈ tbl := in_4 37 rfl rfl
theorem cs_X3_strikeLetters : Cond.selects yX3_strikeLetters.cls yX3_strikeLetters yX3_strikeLetters ∈ tbl := in_p2 (q := (⟨"StruckWords$Judge", "strikeLetters", "(LStruckWords$Tongue;LStruckWords$Row;I)V"⟩, 8)) 11 rfl
theorem cs_X3_turnsOf : Cond.selects yX3_turnsOf.cls yX3_turnsOf yX3_turnsOf ∈ tbl := in_4 117 rfl rfl
theorem cs_X3_waysOfLetters : Cond.selects yX3_waysOfLetters.cls yX3_waysOfLetters yX3_waysOfLetters ∈ tbl := in_4 166 rfl rfl
theorem cs_X5_begin : Cond.selects yX5_begin.cls yX5_begin yX5_begin ∈ tbl := in_3 186 rfl rfl
theorem cs_X5_copyFrom : Cond.selects yX5_copyFrom.cls yX5_copyFrom yX5_copyFrom ∈ tbl := in_5 185 rfl rfl
theorem cs_X6_begin : Cond.selects yX6_begin.cls yX6_begin yX6_begin ∈ tbl := in_p1 (q := (⟨"StruckWords$Reader", "begin", "(LStruckWords$Row;LStruckWords$Tongue;I)V"⟩, 6)) 1 rfl
theorem cs_X6_indexOfName : Cond.selects yX6_indexOfName.cls yX6_indexOfName yX6_indexOfName ∈ tbl := in_p1 (q := (⟨"StruckWords$Reader", "indexOfName", "(II)I"⟩, 6)) 8 rfl
theorem cs_X6_isBeginsOrEnds : Cond.selects yX6_isBeginsOrEnds.cls yX6_isBeginsOrEnds yX6_isBeginsOrEnds ∈ tbl := in_p1 (q := (⟨"StruckWords$Reader", "isBeginsOrEnds", "()Z"⟩, 6)) 9 rfl
theorem cs_X6_isChange : Cond.selects yX6_isChange.cls yX6_isChange yX6_isChange ∈ tbl := in_p2 (q := (⟨"StruckWords$Reader", "isChange", "()Z"⟩, 6)) 2 rfl
theorem cs_X6_isNameHere : Cond.selects yX6_isNameHere.cls yX6_isNameHere yX6_isNameHere ∈ tbl := in_p1 (q := (⟨"StruckWords$Reader", "isNameHere", "()Z"⟩, 6)) 7 rfl
theorem cs_X6_numberHere : Cond.selects yX6_numberHere.cls yX6_numberHere yX6_numberHere ∈ tbl := in_p2 (q := (⟨"StruckWords$Reader", "numberHere", "(II)I"⟩, 6)) 0 rfl
theorem cs_X6_readChange : Cond.selects yX6_readChange.cls yX6_readChange yX6_readChange ∈ tbl := in_p2 (q := (⟨"StruckWords$Reader", "readChange", "(II)Z"⟩, 6)) 3 rfl
theorem cs_X6_readClerk : Cond.selects yX6_readClerk.cls yX6_readClerk yX6_readClerk ∈ tbl := in_p2 (q := (⟨"StruckWords$Reader", "readClerk", "()Z"⟩, 6)) 5 rfl
theorem cs_X6_readClose : Cond.selects yX6_readClose.cls yX6_readClose yX6_readClose ∈ tbl := in_p1 (q := (⟨"StruckWords$Reader", "readClose", "()Z"⟩, 6)) 10 rfl
theorem cs_X6_readEdict : Cond.selects yX6_readEdict.cls yX6_readEdict yX6_readEdict ∈ tbl := in_p2 (q := (⟨"StruckWords$Reader", "readEdict", "()Z"⟩, 6)) 4 rfl
theorem cs_X6_readFollow : Cond.selects yX6_readFollow.cls yX6_readFollow yX6_readFollow ∈ tbl := in_p1 (q := (⟨"StruckWords$Reader", "readFollow", "()Z"⟩, 6)) 12 rfl
theorem cs_X6_readLine : Cond.selects yX6_readLine.cls yX6_readLine yX6_readLine ∈ tbl := in_p1 (q := (⟨"StruckWords$Reader", "readLine", "()Z"⟩, 6)) 3 rfl
theorem cs_X6_readMark : Cond.selects yX6_readMark.cls yX6_readMark yX6_readMark ∈ tbl := in_p1 (q := (⟨"StruckWords$Reader", "readMark", "()Z"⟩, 6)) 11 rfl
theorem cs_X6_readNewName : Cond.selects yX6_readNewName.cls yX6_readNewName yX6_readNewName ∈ tbl := in_p1 (q := (⟨"StruckWords$Reader", "readNewName", "(I)Z"⟩, 6)) 6 rfl
theorem cs_X6_readOption : Cond.selects yX6_readOption.cls yX6_readOption yX6_readOption ∈ tbl := in_p1 (q := (⟨"StruckWords$Reader", "readOption", "(LStruckWords$Keyword;[III)Z"⟩, 6)) 15 rfl
theorem cs_X6_readReads : Cond.selects yX6_readReads.cls yX6_readReads yX6_readReads ∈ tbl := in_p2 (q := (⟨"StruckWords$Reader", "readReads", "()Z"⟩, 6)) 1 rfl
theorem cs_X6_readSort : Cond.selects yX6_readSort.cls yX6_readSort yX6_readSort ∈ tbl := in_p1 (q := (⟨"StruckWords$Reader", "readSort", "()Z"⟩, 6)) 5 rfl
theorem cs_X6_readText : Cond.selects yX6_readText.cls yX6_readText yX6_readText ∈ tbl := in_3 225 rfl rfl
theorem cs_X6_readTongue : Cond.selects yX6_readTongue.cls yX6_readTongue yX6_readTongue ∈ tbl := in_3 11 rfl rfl
theorem cs_X6_readWord : Cond.selects yX6_readWord.cls yX6_readWord yX6_readWord ∈ tbl := in_p1 (q := (⟨"StruckWords$Reader", "readWord", "()Z"⟩, 6)) 14 rfl
theorem cs_X6_refuse : Cond.selects yX6_refuse.cls yX6_refuse yX6_refuse ∈ tbl := in_p1 (q := (⟨"StruckWords$Reader", "refuse", "(I)Z"⟩, 6)) 4 rfl
theorem cs_X6_toldHere : Cond.selects yX6_toldHere.cls yX6_toldHere yX6_toldHere ∈ tbl := in_p1 (q := (⟨"StruckWords$Reader", "toldHere", "(II)I"⟩, 6)) 13 rfl
theorem cs_X7_atOrNone : Cond.selects yX7_atOrNone.cls yX7_atOrNone yX7_atOrNone ∈ tbl := in_4 50 rfl rfl
theorem cs_X7_copyFrom : Cond.selects yX7_copyFrom.cls yX7_copyFrom yX7_copyFrom ∈ tbl := in_3 230 rfl rfl
theorem cs_X7_put : Cond.selects yX7_put.cls yX7_put yX7_put ∈ tbl := in_2 239 rfl rfl
theorem cs_X8_chooseRow : Cond.selects yX8_chooseRow.cls yX8_chooseRow yX8_chooseRow ∈ tbl := in_p3 (q := (⟨"StruckWords$Tear", "chooseRow", "()V"⟩, 13)) 14 rfl
theorem cs_X8_countAll : Cond.selects yX8_countAll.cls yX8_countAll yX8_countAll ∈ tbl := in_p3 (q := (⟨"StruckWords$Tear", "countAll", "()V"⟩, 13)) 6 rfl
theorem cs_X8_countWith : Cond.selects yX8_countWith.cls yX8_countWith yX8_countWith ∈ tbl := in_p3 (q := (⟨"StruckWords$Tear", "countWith", "(I)V"⟩, 13)) 9 rfl
theorem cs_X8_firstAt : Cond.selects yX8_firstAt.cls yX8_firstAt yX8_firstAt ∈ tbl := in_p3 (q := (⟨"StruckWords$Tear", "firstAt", "(IIJ)I"⟩, 13)) 15 rfl
theorem cs_X8_look : Cond.selects yX8_look.cls yX8_look yX8_look ∈ tbl := in_5 103 rfl rfl
theorem cs_X8_mayStandAt : Cond.selects yX8_mayStandAt.cls yX8_mayStandAt yX8_mayStandAt ∈ tbl := in_p3 (q := (⟨"StruckWords$Tear", "mayStandAt", "(II)Z"⟩, 13)) 8 rfl
theorem cs_X8_sortsBehind : Cond.selects yX8_sortsBehind.cls yX8_sortsBehind yX8_sortsBehind ∈ tbl := in_p4 (q := (⟨"StruckWords$Tear", "sortsBehind", "(II)I"⟩, 13)) 0 rfl
theorem cs_X8_sumWhatIsAhead : Cond.selects yX8_sumWhatIsAhead.cls yX8_sumWhatIsAhead yX8_sumWhatIsAhead ∈ tbl := in_p3 (q := (⟨"StruckWords$Tear", "sumWhatIsAhead", "()V"⟩, 13)) 7 rfl
theorem cs_X8_tellSure : Cond.selects yX8_tellSure.cls yX8_tellSure yX8_tellSure ∈ tbl := in_p3 (q := (⟨"StruckWords$Tear", "tellSure", "()V"⟩, 13)) 10 rfl
theorem cs_X8_weighAll : Cond.selects yX8_weighAll.cls yX8_weighAll yX8_weighAll ∈ tbl := in_p3 (q := (⟨"StruckWords$Tear", "weighAll", "()V"⟩, 13)) 11 rfl
theorem cs_X8_weighWith : Cond.selects yX8_weighWith.cls yX8_weighWith yX8_weighWith ∈ tbl := in_p3 (q := (⟨"StruckWords$Tear", "weighWith", "(II)V"⟩, 13)) 12 rfl
theorem cs_X8_weightAt : Cond.selects yX8_weightAt.cls yX8_weightAt yX8_weightAt ∈ tbl := in_p3 (q := (⟨"StruckWords$Tear", "weightAt", "(II)J"⟩, 13)) 13 rfl
theorem cs_X9_advance : Cond.selects yX9_advance.cls yX9_advance yX9_advance ∈ tbl := in_3 23 rfl rfl
theorem cs_X9_begin : Cond.selects yX9_begin.cls yX9_begin yX9_begin ∈ tbl := in_3 19 rfl rfl
theorem cs_X9_isTooLong : Cond.selects yX9_isTooLong.cls yX9_isTooLong yX9_isTooLong ∈ tbl := in_3 174 rfl rfl
theorem cs_X9_kindOf : Cond.selects yX9_kindOf.cls yX9_kindOf yX9_kindOf ∈ tbl := in_p1 (q := (⟨"StruckWords$Tokens", "kindOf", "(II)I"⟩, 7)) 2 rfl
theorem cz_J6_bitCount_0f7a4 : Cond.static yJ6_bitCount_0f7a4 ∈ tbl := in_4 147 rfl rfl
theorem cz_J7_fill_53178 : Cond.static yJ7_fill_53178 ∈ tbl := in_1 159 rfl rfl
theorem cz_J7_fill_d0a16 : Cond.static yJ7_fill_d0a16 ∈ tbl := in_1 162 rfl rfl
theorem cz_X10_anyOf : Cond.static yX10_anyOf ∈ tbl := in_4 66 rfl rfl
theorem cz_X12_areAgainst : Cond.static yX12_areAgainst ∈ tbl := in_4 125 rfl rfl
theorem cz_X12_isMeaning : Cond.static yX12_isMeaning ∈ tbl := in_3 204 rfl rfl
theorem cz_X12_meaningsWith : Cond.static yX12_meaningsWith ∈ tbl := in_4 128 rfl rfl
theorem cz_X13_common : Cond.static yX13_common ∈ tbl := in_8 9 rfl rfl
theorem cz_X13_has : Cond.static yX13_has ∈ tbl := in_7 97 rfl rfl
theorem cz_X13_isAll : Cond.static yX13_isAll ∈ tbl := in_7 227 rfl rfl
theorem cz_X13_isDigit : Cond.static yX13_isDigit ∈ tbl := in_7 35 rfl rfl
theorem cz_X13_isIn : Cond.static yX13_isIn ∈ tbl := in_7 82 rfl rfl
theorem cz_X13_isSmall : Cond.static yX13_isSmall ∈ tbl := in_7 32 rfl rfl
theorem cz_X13_many : Cond.static yX13_many ∈ tbl := in_8 93 rfl rfl
theorem cz_X13_only : Cond.static yX13_only ∈ tbl := in_8 2 rfl rfl
theorem cz_X3_firstBehind : Cond.static yX3_firstBehind ∈ tbl := in_4 105 rfl rfl
theorem cz_X3_leadsTo : Cond.static yX3_leadsTo ∈ tbl := in_4 102 rfl rfl
theorem cz_X4_of : Cond.static yX4_of ∈ tbl := in_3 40 rfl rfl
theorem cz_X9_isOfWord : Cond.static yX9_isOfWord ∈ tbl := in_3 29 rfl rfl
theorem cz_X9_letterFromLast : Cond.static yX9_letterFromLast ∈ tbl := in_4 173 rfl rfl
theorem cz_X9_withLetter : Cond.static yX9_withLetter ∈ tbl := in_3 32 rfl rfl
theorem fl_10_11 : FL "StruckWords$Tongue" 11 8 3 (2, 1) := ⟨RX10, TX10, 15, rfl, iX10, by decide, in_1 179 rfl rfl, rfl⟩
theorem fl_10_18 : FL "StruckWords$Tongue" 18 8 4 (2, 2) := ⟨RX10, TX10, 15, rfl, iX10, by decide, in_1 182 rfl rfl, rfl⟩
theorem fl_10_22 : FL "StruckWords$Tongue" 22 8 5 (2, 3) := ⟨RX10, TX10, 15, rfl, iX10, by decide, in_1 188 rfl rfl, rfl⟩
theorem fl_10_25 : FL "StruckWords$Tongue" 25 8 6 (2, 4) := ⟨RX10, TX10, 15, rfl, iX10, by decide, in_1 191 rfl rfl, rfl⟩
theorem fl_10_29 : FL "StruckWords$Tongue" 29 8 8 (2, 5) := ⟨RX10, TX10, 15, rfl, iX10, by decide, in_1 195 rfl rfl, rfl⟩
theorem fl_10_32 : FL "StruckWords$Tongue" 32 8 9 (2, 6) := ⟨RX10, TX10, 15, rfl, iX10, by decide, in_1 200 rfl rfl, rfl⟩
theorem fl_10_35 : FL "StruckWords$Tongue" 35 8 10 (2, 7) := ⟨RX10, TX10, 15, rfl, iX10, by decide, in_1 204 rfl rfl, rfl⟩
theorem fl_10_38 : FL "StruckWords$Tongue" 38 8 12 (2, 8) := ⟨RX10, TX10, 15, rfl, iX10, by decide, in_1 212 rfl rfl, rfl⟩
theorem fl_10_41 : FL "StruckWords$Tongue" 41 8 13 (2, 9) := ⟨RX10, TX10, 15, rfl, iX10, by decide, in_1 214 rfl rfl, rfl⟩
theorem fl_10_44 : FL "StruckWords$Tongue" 44 8 14 (2, 10) := ⟨RX10, TX10, 15, rfl, iX10, by decide, in_1 215 rfl rfl, rfl⟩
theorem fl_10_50 : FL "StruckWords$Tongue" 50 8 0 (0, 0) := ⟨RX10, TX10, 15, rfl, iX10, by decide, in_1 164 rfl rfl, rfl⟩
theorem fl_10_54 : FL "StruckWords$Tongue" 54 8 1 (0, 0) := ⟨RX10, TX10, 15, rfl, iX10, by decide, in_1 169 rfl rfl, rfl⟩
theorem fl_10_57 : FL "StruckWords$Tongue" 57 8 2 (0, 0) := ⟨RX10, TX10, 15, rfl, iX10, by decide, in_1 173 rfl rfl, rfl⟩
theorem fl_10_73 : FL "StruckWords$Tongue" 73 8 7 (1, 0) := ⟨RX10, TX10, 15, rfl, iX10, by decide, in_1 193 rfl rfl, rfl⟩
theorem fl_10_77 : FL "StruckWords$Tongue" 77 8 11 (0, 0) := ⟨RX10, TX10, 15, rfl, iX10, by decide, in_1 208 rfl rfl, rfl⟩
theorem fl_10_86 : FL "StruckWords$Tongue" 86 0 0 (0, 0) := ⟨RX1, TX1, 2, rfl, iX1, by decide, in_1 138 rfl rfl, rfl⟩
theorem fl_10_89 : FL "StruckWords$Tongue" 89 0 1 (0, 0) := ⟨RX1, TX1, 2, rfl, iX1, by decide, in_1 143 rfl rfl, rfl⟩
theorem fl_11_15 : FL "StruckWords$Walk" 15 9 1 (2, 2) := ⟨RX11, TX11, 9, rfl, iX11, by decide, in_2 80 rfl rfl, rfl⟩
theorem fl_11_19 : FL "StruckWords$Walk" 19 9 2 (2, 3) := ⟨RX11, TX11, 9, rfl, iX11, by decide, in_2 81 rfl rfl, rfl⟩
theorem fl_11_22 : FL "StruckWords$Walk" 22 9 3 (2, 4) := ⟨RX11, TX11, 9, rfl, iX11, by decide, in_2 82 rfl rfl, rfl⟩
theorem fl_11_30 : FL "StruckWords$Walk" 30 9 4 (2, 5) := ⟨RX11, TX11, 9, rfl, iX11, by decide, in_2 84 rfl rfl, rfl⟩
theorem fl_11_34 : FL "StruckWords$Walk" 34 9 7 (0, 0) := ⟨RX11, TX11, 9, rfl, iX11, by decide, in_2 88 rfl rfl, rfl⟩
theorem fl_11_38 : FL "StruckWords$Walk" 38 9 8 (0, 0) := ⟨RX11, TX11, 9, rfl, iX11, by decide, in_2 90 rfl rfl, rfl⟩
theorem fl_11_41 : FL "StruckWords$Walk" 41 9 5 (3, 0) := ⟨RX11, TX11, 9, rfl, iX11, by decide, in_2 86 rfl rfl, rfl⟩
theorem fl_11_45 : FL "StruckWords$Walk" 45 0 0 (0, 0) := ⟨RX1, TX1, 2, rfl, iX1, by decide, in_1 137 rfl rfl, rfl⟩
theorem fl_11_56 : FL "StruckWords$Walk" 56 9 6 (0, 0) := ⟨RX11, TX11, 9, rfl, iX11, by decide, in_2 87 rfl rfl, rfl⟩
theorem fl_11_66 : FL "StruckWords$Walk" 66 5 0 (2, 1) := ⟨RX7, TX7, 2, rfl, iX7, by decide, in_1 43 rfl rfl, rfl⟩
theorem fl_11_80 : FL "StruckWords$Walk" 80 8 8 (2, 5) := ⟨RX10, TX10, 15, rfl, iX10, by decide, in_1 196 rfl rfl, rfl⟩
theorem fl_11_9 : FL "StruckWords$Walk" 9 9 0 (2, 1) := ⟨RX11, TX11, 9, rfl, iX11, by decide, in_2 79 rfl rfl, rfl⟩
theorem fl_12_14 : FL "StruckWords" 14 10 0 (2, 1) := ⟨RX12, TX12, 12, rfl, iX12, by decide, in_2 192 rfl rfl, rfl⟩
theorem fl_12_149 : FL "StruckWords" 149 3 1 (2, 12) := ⟨RX5, TX5, 4, rfl, iX5, by decide, in_2 16 rfl rfl, rfl⟩
theorem fl_12_159 : FL "StruckWords" 159 8 2 (0, 0) := ⟨RX10, TX10, 15, rfl, iX10, by decide, in_1 177 rfl rfl, rfl⟩
theorem fl_12_207 : FL "StruckWords" 207 8 1 (0, 0) := ⟨RX10, TX10, 15, rfl, iX10, by decide, in_1 172 rfl rfl, rfl⟩
theorem fl_12_21 : FL "StruckWords" 21 10 1 (2, 3) := ⟨RX12, TX12, 12, rfl, iX12, by decide, in_2 193 rfl rfl, rfl⟩
theorem fl_12_210 : FL "StruckWords" 210 8 4 (2, 2) := ⟨RX10, TX10, 15, rfl, iX10, by decide, in_1 187 rfl rfl, rfl⟩
theorem fl_12_214 : FL "StruckWords" 214 0 0 (0, 0) := ⟨RX1, TX1, 2, rfl, iX1, by decide, in_1 141 rfl rfl, rfl⟩
theorem fl_12_226 : FL "StruckWords" 226 5 0 (2, 1) := ⟨RX7, TX7, 2, rfl, iX7, by decide, in_1 45 rfl rfl, rfl⟩
theorem fl_12_260 : FL "StruckWords" 260 1 5 (2, 9) := ⟨RX2, TX2, 6, rfl, iX2, by decide, in_2 121 rfl rfl, rfl⟩
theorem fl_12_28 : FL "StruckWords" 28 10 2 (2, 5) := ⟨RX12, TX12, 12, rfl, iX12, by decide, in_2 194 rfl rfl, rfl⟩
theorem fl_12_296 : FL "StruckWords" 296 6 1 (1, 0) := ⟨RX8, TX8, 13, rfl, iX8, by decide, in_2 146 rfl rfl, rfl⟩
theorem fl_12_300 : FL "StruckWords" 300 6 0 (0, 1) := ⟨RX8, TX8, 13, rfl, iX8, by decide, in_2 144 rfl rfl, rfl⟩
theorem fl_12_304 : FL "StruckWords" 304 6 2 (0, 0) := ⟨RX8, TX8, 13, rfl, iX8, by decide, in_2 148 rfl rfl, rfl⟩
theorem fl_12_307 : FL "StruckWords" 307 6 3 (0, 0) := ⟨RX8, TX8, 13, rfl, iX8, by decide, in_2 150 rfl rfl, rfl⟩
theorem fl_12_310 : FL "StruckWords" 310 6 4 (0, 0) := ⟨RX8, TX8, 13, rfl, iX8, by decide, in_2 152 rfl rfl, rfl⟩
theorem fl_12_313 : FL "StruckWords" 313 6 5 (1, 0) := ⟨RX8, TX8, 13, rfl, iX8, by decide, in_2 154 rfl rfl, rfl⟩
theorem fl_12_316 : FL "StruckWords" 316 6 6 (2, 1) := ⟨RX8, TX8, 13, rfl, iX8, by decide, in_2 156 rfl rfl, rfl⟩
theorem fl_12_319 : FL "StruckWords" 319 3 3 (0, 0) := ⟨RX5, TX5, 4, rfl, iX5, by decide, in_2 20 rfl rfl, rfl⟩
theorem fl_12_32 : FL "StruckWords" 32 10 3 (2, 40) := ⟨RX12, TX12, 12, rfl, iX12, by decide, in_2 195 rfl rfl, rfl⟩
theorem fl_12_322 : FL "StruckWords" 322 3 2 (2, 14) := ⟨RX5, TX5, 4, rfl, iX5, by decide, in_2 18 rfl rfl, rfl⟩
theorem fl_12_329 : FL "StruckWords" 329 8 0 (0, 0) := ⟨RX10, TX10, 15, rfl, iX10, by decide, in_1 168 rfl rfl, rfl⟩
theorem fl_12_332 : FL "StruckWords" 332 0 1 (0, 0) := ⟨RX1, TX1, 2, rfl, iX1, by decide, in_1 144 rfl rfl, rfl⟩
theorem fl_12_36 : FL "StruckWords" 36 10 4 (2, 111) := ⟨RX12, TX12, 12, rfl, iX12, by decide, in_2 196 rfl rfl, rfl⟩
theorem fl_12_43 : FL "StruckWords" 43 10 5 (2, 112) := ⟨RX12, TX12, 12, rfl, iX12, by decide, in_2 197 rfl rfl, rfl⟩
theorem fl_12_50 : FL "StruckWords" 50 10 6 (2, 121) := ⟨RX12, TX12, 12, rfl, iX12, by decide, in_2 198 rfl rfl, rfl⟩
theorem fl_12_57 : FL "StruckWords" 57 10 7 (2, 132) := ⟨RX12, TX12, 12, rfl, iX12, by decide, in_2 199 rfl rfl, rfl⟩
theorem fl_12_61 : FL "StruckWords" 61 10 8 (2, 139) := ⟨RX12, TX12, 12, rfl, iX12, by decide, in_2 200 rfl rfl, rfl⟩
theorem fl_12_67 : FL "StruckWords" 67 10 9 (2, 141) := ⟨RX12, TX12, 12, rfl, iX12, by decide, in_2 201 rfl rfl, rfl⟩
theorem fl_12_71 : FL "StruckWords" 71 10 10 (2, 152) := ⟨RX12, TX12, 12, rfl, iX12, by decide, in_2 202 rfl rfl, rfl⟩
theorem fl_12_74 : FL "StruckWords" 74 5 1 (0, 0) := ⟨RX7, TX7, 2, rfl, iX7, by decide, in_1 47 rfl rfl, rfl⟩
theorem fl_12_85 : FL "StruckWords" 85 4 4 (0, 0) := ⟨RX6, TX6, 6, rfl, iX6, by decide, in_1 103 rfl rfl, rfl⟩
theorem fl_12_88 : FL "StruckWords" 88 10 11 (0, 0) := ⟨RX12, TX12, 12, rfl, iX12, by decide, in_2 203 rfl rfl, rfl⟩
theorem fl_12_95 : FL "StruckWords" 95 3 0 (2, 1) := ⟨RX5, TX5, 4, rfl, iX5, by decide, in_2 13 rfl rfl, rfl⟩
theorem fl_13_1 : FL "StruckWordsModel" 1 11 0 (0, 0) := ⟨RX13, TX13, 57, rfl, iX13, by decide, in_6 83 rfl rfl, rfl⟩
theorem fl_13_102 : FL "StruckWordsModel" 102 11 46 (2, 23) := ⟨RX13, TX13, 57, rfl, iX13, by decide, in_6 129 rfl rfl, rfl⟩
theorem fl_13_105 : FL "StruckWordsModel" 105 11 47 (2, 24) := ⟨RX13, TX13, 57, rfl, iX13, by decide, in_6 130 rfl rfl, rfl⟩
theorem fl_13_108 : FL "StruckWordsModel" 108 11 48 (2, 25) := ⟨RX13, TX13, 57, rfl, iX13, by decide, in_6 131 rfl rfl, rfl⟩
theorem fl_13_111 : FL "StruckWordsModel" 111 11 49 (2, 26) := ⟨RX13, TX13, 57, rfl, iX13, by decide, in_6 132 rfl rfl, rfl⟩
theorem fl_13_114 : FL "StruckWordsModel" 114 11 50 (2, 27) := ⟨RX13, TX13, 57, rfl, iX13, by decide, in_6 133 rfl rfl, rfl⟩
theorem fl_13_117 : FL "StruckWordsModel" 117 11 54 (2, 28) := ⟨RX13, TX13, 57, rfl, iX13, by decide, in_6 137 rfl rfl, rfl⟩
theorem fl_13_120 : FL "StruckWordsModel" 120 11 55 (2, 29) := ⟨RX13, TX13, 57, rfl, iX13, by decide, in_6 138 rfl rfl, rfl⟩
theorem fl_13_123 : FL "StruckWordsModel" 123 11 56 (2, 30) := ⟨RX13, TX13, 57, rfl, iX13, by decide, in_6 139 rfl rfl, rfl⟩
theorem fl_13_14 : FL "StruckWordsModel" 14 11 1 (2, 1) := ⟨RX13, TX13, 57, rfl, iX13, by decide, in_6 84 rfl rfl, rfl⟩
theorem fl_13_166 : FL "StruckWordsModel" 166 11 11 (0, 0) := ⟨RX13, TX13, 57, rfl, iX13, by decide, in_6 94 rfl rfl, rfl⟩
theorem fl_13_169 : FL "StruckWordsModel" 169 11 12 (0, 0) := ⟨RX13, TX13, 57, rfl, iX13, by decide, in_6 95 rfl rfl, rfl⟩
theorem fl_13_172 : FL "StruckWordsModel" 172 11 10 (0, 0) := ⟨RX13, TX13, 57, rfl, iX13, by decide, in_6 93 rfl rfl, rfl⟩
theorem fl_13_18 : FL "StruckWordsModel" 18 11 3 (0, 0) := ⟨RX13, TX13, 57, rfl, iX13, by decide, in_6 86 rfl rfl, rfl⟩
theorem fl_13_182 : FL "StruckWordsModel" 182 11 13 (0, 0) := ⟨RX13, TX13, 57, rfl, iX13, by decide, in_6 96 rfl rfl, rfl⟩
theorem fl_13_185 : FL "StruckWordsModel" 185 11 16 (1, 0) := ⟨RX13, TX13, 57, rfl, iX13, by decide, in_6 99 rfl rfl, rfl⟩
theorem fl_13_189 : FL "StruckWordsModel" 189 11 14 (0, 0) := ⟨RX13, TX13, 57, rfl, iX13, by decide, in_6 97 rfl rfl, rfl⟩
theorem fl_13_192 : FL "StruckWordsModel" 192 11 15 (0, 0) := ⟨RX13, TX13, 57, rfl, iX13, by decide, in_6 98 rfl rfl, rfl⟩
theorem fl_13_208 : FL "StruckWordsModel" 208 11 17 (0, 0) := ⟨RX13, TX13, 57, rfl, iX13, by decide, in_6 100 rfl rfl, rfl⟩
theorem fl_13_21 : FL "StruckWordsModel" 21 11 4 (0, 0) := ⟨RX13, TX13, 57, rfl, iX13, by decide, in_6 87 rfl rfl, rfl⟩
theorem fl_13_24 : FL "StruckWordsModel" 24 11 5 (0, 0) := ⟨RX13, TX13, 57, rfl, iX13, by decide, in_6 88 rfl rfl, rfl⟩
theorem fl_13_251 : FL "StruckWordsModel" 251 11 20 (0, 1) := ⟨RX13, TX13, 57, rfl, iX13, by decide, in_6 103 rfl rfl, rfl⟩
theorem fl_13_254 : FL "StruckWordsModel" 254 11 19 (0, 0) := ⟨RX13, TX13, 57, rfl, iX13, by decide, in_6 102 rfl rfl, rfl⟩
theorem fl_13_263 : FL "StruckWordsModel" 263 11 18 (0, 0) := ⟨RX13, TX13, 57, rfl, iX13, by decide, in_6 101 rfl rfl, rfl⟩
theorem fl_13_287 : FL "StruckWordsModel" 287 11 24 (0, 0) := ⟨RX13, TX13, 57, rfl, iX13, by decide, in_6 107 rfl rfl, rfl⟩
theorem fl_13_294 : FL "StruckWordsModel" 294 11 25 (0, 0) := ⟨RX13, TX13, 57, rfl, iX13, by decide, in_6 108 rfl rfl, rfl⟩
theorem fl_13_297 : FL "StruckWordsModel" 297 11 26 (0, 0) := ⟨RX13, TX13, 57, rfl, iX13, by decide, in_6 109 rfl rfl, rfl⟩
theorem fl_13_303 : FL "StruckWordsModel" 303 11 27 (0, 0) := ⟨RX13, TX13, 57, rfl, iX13, by decide, in_6 110 rfl rfl, rfl⟩
theorem fl_13_33 : FL "StruckWordsModel" 33 11 6 (2, 2) := ⟨RX13, TX13, 57, rfl, iX13, by decide, in_6 89 rfl rfl, rfl⟩
theorem fl_13_353 : FL "StruckWordsModel" 353 11 44 (0, 0) := ⟨RX13, TX13, 57, rfl, iX13, by decide, in_6 127 rfl rfl, rfl⟩
theorem fl_13_356 : FL "StruckWordsModel" 356 11 43 (0, 0) := ⟨RX13, TX13, 57, rfl, iX13, by decide, in_6 126 rfl rfl, rfl⟩
theorem fl_13_37 : FL "StruckWordsModel" 37 11 7 (2, 3) := ⟨RX13, TX13, 57, rfl, iX13, by decide, in_6 90 rfl rfl, rfl⟩
theorem fl_13_377 : FL "StruckWordsModel" 377 11 42 (0, 0) := ⟨RX13, TX13, 57, rfl, iX13, by decide, in_6 125 rfl rfl, rfl⟩
theorem fl_13_40 : FL "StruckWordsModel" 40 11 8 (2, 4) := ⟨RX13, TX13, 57, rfl, iX13, by decide, in_6 91 rfl rfl, rfl⟩
theorem fl_13_409 : FL "StruckWordsModel" 409 11 51 (0, 0) := ⟨RX13, TX13, 57, rfl, iX13, by decide, in_6 134 rfl rfl, rfl⟩
theorem fl_13_415 : FL "StruckWordsModel" 415 11 52 (1, 0) := ⟨RX13, TX13, 57, rfl, iX13, by decide, in_6 135 rfl rfl, rfl⟩
theorem fl_13_424 : FL "StruckWordsModel" 424 11 53 (0, 1) := ⟨RX13, TX13, 57, rfl, iX13, by decide, in_6 136 rfl rfl, rfl⟩
theorem fl_13_44 : FL "StruckWordsModel" 44 11 9 (2, 5) := ⟨RX13, TX13, 57, rfl, iX13, by decide, in_6 92 rfl rfl, rfl⟩
theorem fl_13_47 : FL "StruckWordsModel" 47 11 21 (2, 6) := ⟨RX13, TX13, 57, rfl, iX13, by decide, in_6 104 rfl rfl, rfl⟩
theorem fl_13_50 : FL "StruckWordsModel" 50 11 22 (2, 7) := ⟨RX13, TX13, 57, rfl, iX13, by decide, in_6 105 rfl rfl, rfl⟩
theorem fl_13_53 : FL "StruckWordsModel" 53 11 23 (2, 8) := ⟨RX13, TX13, 57, rfl, iX13, by decide, in_6 106 rfl rfl, rfl⟩
theorem fl_13_56 : FL "StruckWordsModel" 56 11 28 (2, 9) := ⟨RX13, TX13, 57, rfl, iX13, by decide, in_6 111 rfl rfl, rfl⟩
theorem fl_13_59 : FL "StruckWordsModel" 59 11 29 (2, 10) := ⟨RX13, TX13, 57, rfl, iX13, by decide, in_6 112 rfl rfl, rfl⟩
theorem fl_13_62 : FL "StruckWordsModel" 62 11 30 (2, 11) := ⟨RX13, TX13, 57, rfl, iX13, by decide, in_6 113 rfl rfl, rfl⟩
theorem fl_13_65 : FL "StruckWordsModel" 65 11 31 (0, 1) := ⟨RX13, TX13, 57, rfl, iX13, by decide, in_6 114 rfl rfl, rfl⟩
theorem fl_13_69 : FL "StruckWordsModel" 69 11 32 (2, 12) := ⟨RX13, TX13, 57, rfl, iX13, by decide, in_6 115 rfl rfl, rfl⟩
theorem fl_13_7 : FL "StruckWordsModel" 7 11 2 (0, 0) := ⟨RX13, TX13, 57, rfl, iX13, by decide, in_6 85 rfl rfl, rfl⟩
theorem fl_13_72 : FL "StruckWordsModel" 72 11 33 (2, 13) := ⟨RX13, TX13, 57, rfl, iX13, by decide, in_6 116 rfl rfl, rfl⟩
theorem fl_13_75 : FL "StruckWordsModel" 75 11 34 (2, 14) := ⟨RX13, TX13, 57, rfl, iX13, by decide, in_6 117 rfl rfl, rfl⟩
theorem fl_13_78 : FL "StruckWordsModel" 78 11 35 (2, 15) := ⟨RX13, TX13, 57, rfl, iX13, by decide, in_6 118 rfl rfl, rfl⟩
theorem fl_13_81 : FL "StruckWordsModel" 81 11 36 (2, 16) := ⟨RX13, TX13, 57, rfl, iX13, by decide, in_6 119 rfl rfl, rfl⟩
theorem fl_13_84 : FL "StruckWordsModel" 84 11 37 (2, 17) := ⟨RX13, TX13, 57, rfl, iX13, by decide, in_6 120 rfl rfl, rfl⟩
theorem fl_13_87 : FL "StruckWordsModel" 87 11 38 (2, 18) := ⟨RX13, TX13, 57, rfl, iX13, by decide, in_6 121 rfl rfl, rfl⟩
theorem fl_13_90 : FL "StruckWordsModel" 90 11 39 (2, 19) := ⟨RX13, TX13, 57, rfl, iX13, by decide, in_6 122 rfl rfl, rfl⟩
theorem fl_13_93 : FL "StruckWordsModel" 93 11 40 (2, 20) := ⟨RX13, TX13, 57, rfl, iX13, by decide, in_6 123 rfl rfl, rfl⟩
theorem fl_13_96 : FL "StruckWordsModel" 96 11 41 (2, 21) := ⟨RX13, TX13, 57, rfl, iX13, by decide, in_6 124 rfl rfl, rfl⟩
theorem fl_13_99 : FL "StruckWordsModel" 99 11 45 (2, 22) := ⟨RX13, TX13, 57, rfl, iX13, by decide, in_6 128 rfl rfl, rfl⟩
theorem fl_1_13 : FL "StruckWords$Edict" 13 0 1 (0, 0) := ⟨RX1, TX1, 2, rfl, iX1, by decide, in_1 142 rfl rfl, rfl⟩
theorem fl_1_7 : FL "StruckWords$Edict" 7 0 0 (0, 0) := ⟨RX1, TX1, 2, rfl, iX1, by decide, in_1 136 rfl rfl, rfl⟩
theorem fl_2_113 : FL "StruckWords$Finder" 113 1 3 (3, 0) := ⟨RX2, TX2, 6, rfl, iX2, by decide, in_2 118 rfl rfl, rfl⟩
theorem fl_2_12 : FL "StruckWords$Finder" 12 1 0 (2, 1) := ⟨RX2, TX2, 6, rfl, iX2, by decide, in_2 115 rfl rfl, rfl⟩
theorem fl_2_122 : FL "StruckWords$Finder" 122 8 11 (0, 0) := ⟨RX10, TX10, 15, rfl, iX10, by decide, in_1 211 rfl rfl, rfl⟩
theorem fl_2_21 : FL "StruckWords$Finder" 21 1 1 (2, 8) := ⟨RX2, TX2, 6, rfl, iX2, by decide, in_2 116 rfl rfl, rfl⟩
theorem fl_2_30 : FL "StruckWords$Finder" 30 1 5 (2, 9) := ⟨RX2, TX2, 6, rfl, iX2, by decide, in_2 120 rfl rfl, rfl⟩
theorem fl_2_34 : FL "StruckWords$Finder" 34 9 3 (2, 4) := ⟨RX11, TX11, 9, rfl, iX11, by decide, in_2 83 rfl rfl, rfl⟩
theorem fl_2_48 : FL "StruckWords$Finder" 48 9 4 (2, 5) := ⟨RX11, TX11, 9, rfl, iX11, by decide, in_2 85 rfl rfl, rfl⟩
theorem fl_2_59 : FL "StruckWords$Finder" 59 1 2 (3, 0) := ⟨RX2, TX2, 6, rfl, iX2, by decide, in_2 117 rfl rfl, rfl⟩
theorem fl_2_67 : FL "StruckWords$Finder" 67 9 7 (0, 0) := ⟨RX11, TX11, 9, rfl, iX11, by decide, in_2 89 rfl rfl, rfl⟩
theorem fl_2_74 : FL "StruckWords$Finder" 74 5 1 (0, 0) := ⟨RX7, TX7, 2, rfl, iX7, by decide, in_1 52 rfl rfl, rfl⟩
theorem fl_2_77 : FL "StruckWords$Finder" 77 8 2 (0, 0) := ⟨RX10, TX10, 15, rfl, iX10, by decide, in_1 176 rfl rfl, rfl⟩
theorem fl_2_86 : FL "StruckWords$Finder" 86 8 4 (2, 2) := ⟨RX10, TX10, 15, rfl, iX10, by decide, in_1 185 rfl rfl, rfl⟩
theorem fl_2_89 : FL "StruckWords$Finder" 89 1 4 (0, 0) := ⟨RX2, TX2, 6, rfl, iX2, by decide, in_2 119 rfl rfl, rfl⟩
theorem fl_2_99 : FL "StruckWords$Finder" 99 8 10 (2, 7) := ⟨RX10, TX10, 15, rfl, iX10, by decide, in_1 206 rfl rfl, rfl⟩
theorem fl_3_101 : FL "StruckWords$Judge" 101 8 0 (0, 0) := ⟨RX10, TX10, 15, rfl, iX10, by decide, in_1 166 rfl rfl, rfl⟩
theorem fl_3_132 : FL "StruckWords$Judge" 132 2 6 (0, 0) := ⟨RX3, TX3, 8, rfl, iX3, by decide, in_2 45 rfl rfl, rfl⟩
theorem fl_3_135 : FL "StruckWords$Judge" 135 8 2 (0, 0) := ⟨RX10, TX10, 15, rfl, iX10, by decide, in_1 178 rfl rfl, rfl⟩
theorem fl_3_138 : FL "StruckWords$Judge" 138 8 3 (2, 1) := ⟨RX10, TX10, 15, rfl, iX10, by decide, in_1 180 rfl rfl, rfl⟩
theorem fl_3_14 : FL "StruckWords$Judge" 14 2 0 (2, 1) := ⟨RX3, TX3, 8, rfl, iX3, by decide, in_2 39 rfl rfl, rfl⟩
theorem fl_3_20 : FL "StruckWords$Judge" 20 2 1 (2, 3) := ⟨RX3, TX3, 8, rfl, iX3, by decide, in_2 40 rfl rfl, rfl⟩
theorem fl_3_24 : FL "StruckWords$Judge" 24 2 2 (2, 4) := ⟨RX3, TX3, 8, rfl, iX3, by decide, in_2 41 rfl rfl, rfl⟩
theorem fl_3_27 : FL "StruckWords$Judge" 27 2 3 (2, 5) := ⟨RX3, TX3, 8, rfl, iX3, by decide, in_2 42 rfl rfl, rfl⟩
theorem fl_3_31 : FL "StruckWords$Judge" 31 2 4 (2, 6) := ⟨RX3, TX3, 8, rfl, iX3, by decide, in_2 43 rfl rfl, rfl⟩
theorem fl_3_34 : FL "StruckWords$Judge" 34 2 5 (2, 7) := ⟨RX3, TX3, 8, rfl, iX3, by decide, in_2 44 rfl rfl, rfl⟩
theorem fl_3_37 : FL "StruckWords$Judge" 37 2 7 (2, 8) := ⟨RX3, TX3, 8, rfl, iX3, by decide, in_2 46 rfl rfl, rfl⟩
theorem fl_3_40 : FL "StruckWords$Judge" 40 5 1 (0, 0) := ⟨RX7, TX7, 2, rfl, iX7, by decide, in_1 48 rfl rfl, rfl⟩
theorem fl_3_44 : FL "StruckWords$Judge" 44 3 1 (2, 12) := ⟨RX5, TX5, 4, rfl, iX5, by decide, in_2 15 rfl rfl, rfl⟩
theorem fl_3_49 : FL "StruckWords$Judge" 49 3 0 (2, 1) := ⟨RX5, TX5, 4, rfl, iX5, by decide, in_2 12 rfl rfl, rfl⟩
theorem fl_3_53 : FL "StruckWords$Judge" 53 8 4 (2, 2) := ⟨RX10, TX10, 15, rfl, iX10, by decide, in_1 183 rfl rfl, rfl⟩
theorem fl_3_65 : FL "StruckWords$Judge" 65 5 0 (2, 1) := ⟨RX7, TX7, 2, rfl, iX7, by decide, in_1 42 rfl rfl, rfl⟩
theorem fl_3_85 : FL "StruckWords$Judge" 85 0 0 (0, 0) := ⟨RX1, TX1, 2, rfl, iX1, by decide, in_1 139 rfl rfl, rfl⟩
theorem fl_3_88 : FL "StruckWords$Judge" 88 8 8 (2, 5) := ⟨RX10, TX10, 15, rfl, iX10, by decide, in_1 197 rfl rfl, rfl⟩
theorem fl_5_12 : FL "StruckWords$Matter" 12 3 0 (2, 1) := ⟨RX5, TX5, 4, rfl, iX5, by decide, in_2 11 rfl rfl, rfl⟩
theorem fl_5_23 : FL "StruckWords$Matter" 23 3 1 (2, 12) := ⟨RX5, TX5, 4, rfl, iX5, by decide, in_2 14 rfl rfl, rfl⟩
theorem fl_5_27 : FL "StruckWords$Matter" 27 3 2 (2, 14) := ⟨RX5, TX5, 4, rfl, iX5, by decide, in_2 17 rfl rfl, rfl⟩
theorem fl_5_39 : FL "StruckWords$Matter" 39 3 3 (0, 0) := ⟨RX5, TX5, 4, rfl, iX5, by decide, in_2 19 rfl rfl, rfl⟩
theorem fl_6_12 : FL "StruckWords$Reader" 12 4 0 (2, 1) := ⟨RX6, TX6, 6, rfl, iX6, by decide, in_1 98 rfl rfl, rfl⟩
theorem fl_6_127 : FL "StruckWords$Reader" 127 8 0 (0, 0) := ⟨RX10, TX10, 15, rfl, iX10, by decide, in_1 167 rfl rfl, rfl⟩
theorem fl_6_139 : FL "StruckWords$Reader" 139 8 6 (2, 4) := ⟨RX10, TX10, 15, rfl, iX10, by decide, in_1 192 rfl rfl, rfl⟩
theorem fl_6_145 : FL "StruckWords$Reader" 145 8 7 (1, 0) := ⟨RX10, TX10, 15, rfl, iX10, by decide, in_1 194 rfl rfl, rfl⟩
theorem fl_6_154 : FL "StruckWords$Reader" 154 8 1 (0, 0) := ⟨RX10, TX10, 15, rfl, iX10, by decide, in_1 171 rfl rfl, rfl⟩
theorem fl_6_168 : FL "StruckWords$Reader" 168 8 8 (2, 5) := ⟨RX10, TX10, 15, rfl, iX10, by decide, in_1 199 rfl rfl, rfl⟩
theorem fl_6_178 : FL "StruckWords$Reader" 178 8 9 (2, 6) := ⟨RX10, TX10, 15, rfl, iX10, by decide, in_1 203 rfl rfl, rfl⟩
theorem fl_6_184 : FL "StruckWords$Reader" 184 8 10 (2, 7) := ⟨RX10, TX10, 15, rfl, iX10, by decide, in_1 207 rfl rfl, rfl⟩
theorem fl_6_190 : FL "StruckWords$Reader" 190 8 11 (0, 0) := ⟨RX10, TX10, 15, rfl, iX10, by decide, in_1 210 rfl rfl, rfl⟩
theorem fl_6_221 : FL "StruckWords$Reader" 221 8 4 (2, 2) := ⟨RX10, TX10, 15, rfl, iX10, by decide, in_1 186 rfl rfl, rfl⟩
theorem fl_6_230 : FL "StruckWords$Reader" 230 0 0 (0, 0) := ⟨RX1, TX1, 2, rfl, iX1, by decide, in_1 140 rfl rfl, rfl⟩
theorem fl_6_233 : FL "StruckWords$Reader" 233 8 5 (2, 3) := ⟨RX10, TX10, 15, rfl, iX10, by decide, in_1 189 rfl rfl, rfl⟩
theorem fl_6_242 : FL "StruckWords$Reader" 242 8 3 (2, 1) := ⟨RX10, TX10, 15, rfl, iX10, by decide, in_1 181 rfl rfl, rfl⟩
theorem fl_6_245 : FL "StruckWords$Reader" 245 7 5 (0, 0) := ⟨RX9, TX9, 7, rfl, iX9, by decide, in_1 80 rfl rfl, rfl⟩
theorem fl_6_27 : FL "StruckWords$Reader" 27 4 2 (0, 1) := ⟨RX6, TX6, 6, rfl, iX6, by decide, in_1 100 rfl rfl, rfl⟩
theorem fl_6_31 : FL "StruckWords$Reader" 31 4 3 (0, 0) := ⟨RX6, TX6, 6, rfl, iX6, by decide, in_1 101 rfl rfl, rfl⟩
theorem fl_6_35 : FL "StruckWords$Reader" 35 7 3 (0, 0) := ⟨RX9, TX9, 7, rfl, iX9, by decide, in_1 75 rfl rfl, rfl⟩
theorem fl_6_42 : FL "StruckWords$Reader" 42 4 5 (0, 0) := ⟨RX6, TX6, 6, rfl, iX6, by decide, in_1 104 rfl rfl, rfl⟩
theorem fl_6_55 : FL "StruckWords$Reader" 55 5 1 (0, 0) := ⟨RX7, TX7, 2, rfl, iX7, by decide, in_1 50 rfl rfl, rfl⟩
theorem fl_6_60 : FL "StruckWords$Reader" 60 8 2 (0, 0) := ⟨RX10, TX10, 15, rfl, iX10, by decide, in_1 174 rfl rfl, rfl⟩
theorem fl_6_74 : FL "StruckWords$Reader" 74 4 1 (3, 0) := ⟨RX6, TX6, 6, rfl, iX6, by decide, in_1 99 rfl rfl, rfl⟩
theorem fl_6_84 : FL "StruckWords$Reader" 84 7 4 (0, 0) := ⟨RX9, TX9, 7, rfl, iX9, by decide, in_1 77 rfl rfl, rfl⟩
theorem fl_6_87 : FL "StruckWords$Reader" 87 7 6 (3, 0) := ⟨RX9, TX9, 7, rfl, iX9, by decide, in_1 81 rfl rfl, rfl⟩
theorem fl_7_15 : FL "StruckWords$Row" 15 5 0 (2, 1) := ⟨RX7, TX7, 2, rfl, iX7, by decide, in_1 41 rfl rfl, rfl⟩
theorem fl_7_21 : FL "StruckWords$Row" 21 5 1 (0, 0) := ⟨RX7, TX7, 2, rfl, iX7, by decide, in_1 46 rfl rfl, rfl⟩
theorem fl_8_102 : FL "StruckWords$Tear" 102 6 1 (1, 0) := ⟨RX8, TX8, 13, rfl, iX8, by decide, in_2 145 rfl rfl, rfl⟩
theorem fl_8_105 : FL "StruckWords$Tear" 105 6 2 (0, 0) := ⟨RX8, TX8, 13, rfl, iX8, by decide, in_2 147 rfl rfl, rfl⟩
theorem fl_8_112 : FL "StruckWords$Tear" 112 8 0 (0, 0) := ⟨RX10, TX10, 15, rfl, iX10, by decide, in_1 165 rfl rfl, rfl⟩
theorem fl_8_125 : FL "StruckWords$Tear" 125 6 3 (0, 0) := ⟨RX8, TX8, 13, rfl, iX8, by decide, in_2 149 rfl rfl, rfl⟩
theorem fl_8_128 : FL "StruckWords$Tear" 128 6 4 (0, 0) := ⟨RX8, TX8, 13, rfl, iX8, by decide, in_2 151 rfl rfl, rfl⟩
theorem fl_8_131 : FL "StruckWords$Tear" 131 8 1 (0, 0) := ⟨RX10, TX10, 15, rfl, iX10, by decide, in_1 170 rfl rfl, rfl⟩
theorem fl_8_14 : FL "StruckWords$Tear" 14 6 6 (2, 1) := ⟨RX8, TX8, 13, rfl, iX8, by decide, in_2 155 rfl rfl, rfl⟩
theorem fl_8_145 : FL "StruckWords$Tear" 145 8 9 (2, 6) := ⟨RX10, TX10, 15, rfl, iX10, by decide, in_1 202 rfl rfl, rfl⟩
theorem fl_8_20 : FL "StruckWords$Tear" 20 6 8 (2, 3) := ⟨RX8, TX8, 13, rfl, iX8, by decide, in_2 158 rfl rfl, rfl⟩
theorem fl_8_24 : FL "StruckWords$Tear" 24 6 10 (2, 4) := ⟨RX8, TX8, 13, rfl, iX8, by decide, in_2 160 rfl rfl, rfl⟩
theorem fl_8_28 : FL "StruckWords$Tear" 28 6 11 (2, 5) := ⟨RX8, TX8, 13, rfl, iX8, by decide, in_2 161 rfl rfl, rfl⟩
theorem fl_8_31 : FL "StruckWords$Tear" 31 6 12 (2, 6) := ⟨RX8, TX8, 13, rfl, iX8, by decide, in_2 162 rfl rfl, rfl⟩
theorem fl_8_38 : FL "StruckWords$Tear" 38 6 7 (3, 0) := ⟨RX8, TX8, 13, rfl, iX8, by decide, in_2 157 rfl rfl, rfl⟩
theorem fl_8_48 : FL "StruckWords$Tear" 48 6 9 (0, 0) := ⟨RX8, TX8, 13, rfl, iX8, by decide, in_2 159 rfl rfl, rfl⟩
theorem fl_8_52 : FL "StruckWords$Tear" 52 8 4 (2, 2) := ⟨RX10, TX10, 15, rfl, iX10, by decide, in_1 184 rfl rfl, rfl⟩
theorem fl_8_77 : FL "StruckWords$Tear" 77 6 5 (1, 0) := ⟨RX8, TX8, 13, rfl, iX8, by decide, in_2 153 rfl rfl, rfl⟩
theorem fl_8_93 : FL "StruckWords$Tear" 93 8 2 (0, 0) := ⟨RX10, TX10, 15, rfl, iX10, by decide, in_1 175 rfl rfl, rfl⟩
theorem fl_9_15 : FL "StruckWords$Tokens" 15 7 1 (0, 0) := ⟨RX9, TX9, 7, rfl, iX9, by decide, in_1 73 rfl rfl, rfl⟩
theorem fl_9_19 : FL "StruckWords$Tokens" 19 7 2 (0, 0) := ⟨RX9, TX9, 7, rfl, iX9, by decide, in_1 74 rfl rfl, rfl⟩
theorem fl_9_25 : FL "StruckWords$Tokens" 25 5 1 (0, 0) := ⟨RX7, TX7, 2, rfl, iX7, by decide, in_1 51 rfl rfl, rfl⟩
theorem fl_9_36 : FL "StruckWords$Tokens" 36 7 4 (0, 0) := ⟨RX9, TX9, 7, rfl, iX9, by decide, in_1 78 rfl rfl, rfl⟩
theorem fl_9_39 : FL "StruckWords$Tokens" 39 5 0 (2, 1) := ⟨RX7, TX7, 2, rfl, iX7, by decide, in_1 44 rfl rfl, rfl⟩
theorem fl_9_43 : FL "StruckWords$Tokens" 43 7 5 (0, 0) := ⟨RX9, TX9, 7, rfl, iX9, by decide, in_1 79 rfl rfl, rfl⟩
theorem fl_9_59 : FL "StruckWords$Tokens" 59 7 3 (0, 0) := ⟨RX9, TX9, 7, rfl, iX9, by decide, in_1 76 rfl rfl, rfl⟩
theorem fl_9_9 : FL "StruckWords$Tokens" 9 7 0 (3, 0) := ⟨RX9, TX9, 7, rfl, iX9, by decide, in_1 72 rfl rfl, rfl⟩
theorem fp_10_50 : FP "StruckWords$Tongue" 50 8 0 (0, 0) := ⟨RX10, TX10, 15, tyX10, rfl, iX10, by decide, in_1 164 rfl rfl, rfl, tyX10_ok, nmX10, rfl, rfl⟩
theorem fp_10_54 : FP "StruckWords$Tongue" 54 8 1 (0, 0) := ⟨RX10, TX10, 15, tyX10, rfl, iX10, by decide, in_1 169 rfl rfl, rfl, tyX10_ok, nmX10, rfl, rfl⟩
theorem fp_10_57 : FP "StruckWords$Tongue" 57 8 2 (0, 0) := ⟨RX10, TX10, 15, tyX10, rfl, iX10, by decide, in_1 173 rfl rfl, rfl, tyX10_ok, nmX10, rfl, rfl⟩
theorem fp_10_73 : FP "StruckWords$Tongue" 73 8 7 (1, 0) := ⟨RX10, TX10, 15, tyX10, rfl, iX10, by decide, in_1 193 rfl rfl, rfl, tyX10_ok, nmX10, rfl, rfl⟩
theorem fp_10_77 : FP "StruckWords$Tongue" 77 8 11 (0, 0) := ⟨RX10, TX10, 15, tyX10, rfl, iX10, by decide, in_1 208 rfl rfl, rfl, tyX10_ok, nmX10, rfl, rfl⟩
theorem fp_11_34 : FP "StruckWords$Walk" 34 9 7 (0, 0) := ⟨RX11, TX11, 9, tyX11, rfl, iX11, by decide, in_2 88 rfl rfl, rfl, tyX11_ok, nmX11, rfl, rfl⟩
theorem fp_11_38 : FP "StruckWords$Walk" 38 9 8 (0, 0) := ⟨RX11, TX11, 9, tyX11, rfl, iX11, by decide, in_2 90 rfl rfl, rfl, tyX11_ok, nmX11, rfl, rfl⟩
theorem fp_11_41 : FP "StruckWords$Walk" 41 9 5 (3, 0) := ⟨RX11, TX11, 9, tyX11, rfl, iX11, by decide, in_2 86 rfl rfl, rfl, tyX11_ok, nmX11, rfl, rfl⟩
theorem fp_11_56 : FP "StruckWords$Walk" 56 9 6 (0, 0) := ⟨RX11, TX11, 9, tyX11, rfl, iX11, by decide, in_2 87 rfl rfl, rfl, tyX11_ok, nmX11, rfl, rfl⟩
theorem fp_12_319 : FP "StruckWords" 319 3 3 (0, 0) := ⟨RX5, TX5, 4, tyX5, rfl, iX5, by decide, in_2 20 rfl rfl, rfl, tyX5_ok, nmX5, rfl, rfl⟩
theorem fp_12_74 : FP "StruckWords" 74 5 1 (0, 0) := ⟨RX7, TX7, 2, tyX7, rfl, iX7, by decide, in_1 47 rfl rfl, rfl, tyX7_ok, nmX7, rfl, rfl⟩
theorem fp_12_88 : FP "StruckWords" 88 10 11 (0, 0) := ⟨RX12, TX12, 12, tyX12, rfl, iX12, by decide, in_2 203 rfl rfl, rfl, tyX12_ok, nmX12, rfl, rfl⟩
theorem fp_13_1 : FP "StruckWordsModel" 1 11 0 (0, 0) := ⟨RX13, TX13, 57, tyX13, rfl, iX13, by decide, in_6 83 rfl rfl, rfl, tyX13_ok, nmX13, rfl, rfl⟩
theorem fp_13_166 : FP "StruckWordsModel" 166 11 11 (0, 0) := ⟨RX13, TX13, 57, tyX13, rfl, iX13, by decide, in_6 94 rfl rfl, rfl, tyX13_ok, nmX13, rfl, rfl⟩
theorem fp_13_169 : FP "StruckWordsModel" 169 11 12 (0, 0) := ⟨RX13, TX13, 57, tyX13, rfl, iX13, by decide, in_6 95 rfl rfl, rfl, tyX13_ok, nmX13, rfl, rfl⟩
theorem fp_13_172 : FP "StruckWordsModel" 172 11 10 (0, 0) := ⟨RX13, TX13, 57, tyX13, rfl, iX13, by decide, in_6 93 rfl rfl, rfl, tyX13_ok, nmX13, rfl, rfl⟩
theorem fp_13_18 : FP "StruckWordsModel" 18 11 3 (0, 0) := ⟨RX13, TX13, 57, tyX13, rfl, iX13, by decide, in_6 86 rfl rfl, rfl, tyX13_ok, nmX13, rfl, rfl⟩
theorem fp_13_182 : FP "StruckWordsModel" 182 11 13 (0, 0) := ⟨RX13, TX13, 57, tyX13, rfl, iX13, by decide, in_6 96 rfl rfl, rfl, tyX13_ok, nmX13, rfl, rfl⟩
theorem fp_13_185 : FP "StruckWordsModel" 185 11 16 (1, 0) := ⟨RX13, TX13, 57, tyX13, rfl, iX13, by decide, in_6 99 rfl rfl, rfl, tyX13_ok, nmX13, rfl, rfl⟩
theorem fp_13_189 : FP "StruckWordsModel" 189 11 14 (0, 0) := ⟨RX13, TX13, 57, tyX13, rfl, iX13, by decide, in_6 97 rfl rfl, rfl, tyX13_ok, nmX13, rfl, rfl⟩
theorem fp_13_192 : FP "StruckWordsModel" 192 11 15 (0, 0) := ⟨RX13, TX13, 57, tyX13, rfl, iX13, by decide, in_6 98 rfl rfl, rfl, tyX13_ok, nmX13, rfl, rfl⟩
theorem fp_13_208 : FP "StruckWordsModel" 208 11 17 (0, 0) := ⟨RX13, TX13, 57, tyX13, rfl, iX13, by decide, in_6 100 rfl rfl, rfl, tyX13_ok, nmX13, rfl, rfl⟩
theorem fp_13_21 : FP "StruckWordsModel" 21 11 4 (0, 0) := ⟨RX13, TX13, 57, tyX13, rfl, iX13, by decide, in_6 87 rfl rfl, rfl, tyX13_ok, nmX13, rfl, rfl⟩
theorem fp_13_24 : FP "StruckWordsModel" 24 11 5 (0, 0) := ⟨RX13, TX13, 57, tyX13, rfl, iX13, by decide, in_6 88 rfl rfl, rfl, tyX13_ok, nmX13, rfl, rfl⟩
theorem fp_13_251 : FP "StruckWordsModel" 251 11 20 (0, 1) := ⟨RX13, TX13, 57, tyX13, rfl, iX13, by decide, in_6 103 rfl rfl, rfl, tyX13_ok, nmX13, rfl, rfl⟩
theorem fp_13_254 : FP "StruckWordsModel" 254 11 19 (0, 0) := ⟨RX13, TX13, 57, tyX13, rfl, iX13, by decide, in_6 102 rfl rfl, rfl, tyX13_ok, nmX13, rfl, rfl⟩
theorem fp_13_263 : FP "StruckWordsModel" 263 11 18 (0, 0) := ⟨RX13, TX13, 57, tyX13, rfl, iX13, by decide, in_6 101 rfl rfl, rfl, tyX13_ok, nmX13, rfl, rfl⟩
theorem fp_13_287 : FP "StruckWordsModel" 287 11 24 (0, 0) := ⟨RX13, TX13, 57, tyX13, rfl, iX13, by decide, in_6 107 rfl rfl, rfl, tyX13_ok, nmX13, rfl, rfl⟩
theorem fp_13_294 : FP "StruckWordsModel" 294 11 25 (0, 0) := ⟨RX13, TX13, 57, tyX13, rfl, iX13, by decide, in_6 108 rfl rfl, rfl, tyX13_ok, nmX13, rfl, rfl⟩
theorem fp_13_297 : FP "StruckWordsModel" 297 11 26 (0, 0) := ⟨RX13, TX13, 57, tyX13, rfl, iX13, by decide, in_6 109 rfl rfl, rfl, tyX13_ok, nmX13, rfl, rfl⟩
theorem fp_13_303 : FP "StruckWordsModel" 303 11 27 (0, 0) := ⟨RX13, TX13, 57, tyX13, rfl, iX13, by decide, in_6 110 rfl rfl, rfl, tyX13_ok, nmX13, rfl, rfl⟩
theorem fp_13_353 : FP "StruckWordsModel" 353 11 44 (0, 0) := ⟨RX13, TX13, 57, tyX13, rfl, iX13, by decide, in_6 127 rfl rfl, rfl, tyX13_ok, nmX13, rfl, rfl⟩
theorem fp_13_356 : FP "StruckWordsModel" 356 11 43 (0, 0) := ⟨RX13, TX13, 57, tyX13, rfl, iX13, by decide, in_6 126 rfl rfl, rfl, tyX13_ok, nmX13, rfl, rfl⟩
theorem fp_13_377 : FP "StruckWordsModel" 377 11 42 (0, 0) := ⟨RX13, TX13, 57, tyX13, rfl, iX13, by decide, in_6 125 rfl rfl, rfl, tyX13_ok, nmX13, rfl, rfl⟩
theorem fp_13_409 : FP "StruckWordsModel" 409 11 51 (0, 0) := ⟨RX13, TX13, 57, tyX13, rfl, iX13, by decide, in_6 134 rfl rfl, rfl, tyX13_ok, nmX13, rfl, rfl⟩
theorem fp_13_415 : FP "StruckWordsModel" 415 11 52 (1, 0) := ⟨RX13, TX13, 57, tyX13, rfl, iX13, by decide, in_6 135 rfl rfl, rfl, tyX13_ok, nmX13, rfl, rfl⟩
theorem fp_13_424 : FP "StruckWordsModel" 424 11 53 (0, 1) := ⟨RX13, TX13, 57, tyX13, rfl, iX13, by decide, in_6 136 rfl rfl, rfl, tyX13_ok, nmX13, rfl, rfl⟩
theorem fp_13_65 : FP "StruckWordsModel" 65 11 31 (0, 1) := ⟨RX13, TX13, 57, tyX13, rfl, iX13, by decide, in_6 114 rfl rfl, rfl, tyX13_ok, nmX13, rfl, rfl⟩
theorem fp_13_7 : FP "StruckWordsModel" 7 11 2 (0, 0) := ⟨RX13, TX13, 57, tyX13, rfl, iX13, by decide, in_6 85 rfl rfl, rfl, tyX13_ok, nmX13, rfl, rfl⟩
theorem fp_1_13 : FP "StruckWords$Edict" 13 0 1 (0, 0) := ⟨RX1, TX1, 2, tyX1, rfl, iX1, by decide, in_1 142 rfl rfl, rfl, tyX1_ok, nmX1, rfl, rfl⟩
theorem fp_1_7 : FP "StruckWords$Edict" 7 0 0 (0, 0) := ⟨RX1, TX1, 2, tyX1, rfl, iX1, by decide, in_1 136 rfl rfl, rfl, tyX1_ok, nmX1, rfl, rfl⟩
theorem fp_2_113 : FP "StruckWords$Finder" 113 1 3 (3, 0) := ⟨RX2, TX2, 6, tyX2, rfl, iX2, by decide, in_2 118 rfl rfl, rfl, tyX2_ok, nmX2, rfl, rfl⟩
theorem fp_2_44 : FP "StruckWords$Finder" 44 9 8 (0, 0) := ⟨RX11, TX11, 9, tyX11, rfl, iX11, by decide, in_2 91 rfl rfl, rfl, tyX11_ok, nmX11, rfl, rfl⟩
theorem fp_2_59 : FP "StruckWords$Finder" 59 1 2 (3, 0) := ⟨RX2, TX2, 6, tyX2, rfl, iX2, by decide, in_2 117 rfl rfl, rfl, tyX2_ok, nmX2, rfl, rfl⟩
theorem fp_2_67 : FP "StruckWords$Finder" 67 9 7 (0, 0) := ⟨RX11, TX11, 9, tyX11, rfl, iX11, by decide, in_2 89 rfl rfl, rfl, tyX11_ok, nmX11, rfl, rfl⟩
theorem fp_2_74 : FP "StruckWords$Finder" 74 5 1 (0, 0) := ⟨RX7, TX7, 2, tyX7, rfl, iX7, by decide, in_1 52 rfl rfl, rfl, tyX7_ok, nmX7, rfl, rfl⟩
theorem fp_2_89 : FP "StruckWords$Finder" 89 1 4 (0, 0) := ⟨RX2, TX2, 6, tyX2, rfl, iX2, by decide, in_2 119 rfl rfl, rfl, tyX2_ok, nmX2, rfl, rfl⟩
theorem fp_3_132 : FP "StruckWords$Judge" 132 2 6 (0, 0) := ⟨RX3, TX3, 8, tyX3, rfl, iX3, by decide, in_2 45 rfl rfl, rfl, tyX3_ok, nmX3, rfl, rfl⟩
theorem fp_3_40 : FP "StruckWords$Judge" 40 5 1 (0, 0) := ⟨RX7, TX7, 2, tyX7, rfl, iX7, by decide, in_1 48 rfl rfl, rfl, tyX7_ok, nmX7, rfl, rfl⟩
theorem fp_5_35 : FP "StruckWords$Matter" 35 5 1 (0, 0) := ⟨RX7, TX7, 2, tyX7, rfl, iX7, by decide, in_1 49 rfl rfl, rfl, tyX7_ok, nmX7, rfl, rfl⟩
theorem fp_5_39 : FP "StruckWords$Matter" 39 3 3 (0, 0) := ⟨RX5, TX5, 4, tyX5, rfl, iX5, by decide, in_2 19 rfl rfl, rfl, tyX5_ok, nmX5, rfl, rfl⟩
theorem fp_6_127 : FP "StruckWords$Reader" 127 8 0 (0, 0) := ⟨RX10, TX10, 15, tyX10, rfl, iX10, by decide, in_1 167 rfl rfl, rfl, tyX10_ok, nmX10, rfl, rfl⟩
theorem fp_6_145 : FP "StruckWords$Reader" 145 8 7 (1, 0) := ⟨RX10, TX10, 15, tyX10, rfl, iX10, by decide, in_1 194 rfl rfl, rfl, tyX10_ok, nmX10, rfl, rfl⟩
theorem fp_6_154 : FP "StruckWords$Reader" 154 8 1 (0, 0) := ⟨RX10, TX10, 15, tyX10, rfl, iX10, by decide, in_1 171 rfl rfl, rfl, tyX10_ok, nmX10, rfl, rfl⟩
theorem fp_6_190 : FP "StruckWords$Reader" 190 8 11 (0, 0) := ⟨RX10, TX10, 15, tyX10, rfl, iX10, by decide, in_1 210 rfl rfl, rfl, tyX10_ok, nmX10, rfl, rfl⟩
theorem fp_6_27 : FP "StruckWords$Reader" 27 4 2 (0, 1) := ⟨RX6, TX6, 6, tyX6, rfl, iX6, by decide, in_1 100 rfl rfl, rfl, tyX6_ok, nmX6, rfl, rfl⟩
theorem fp_6_31 : FP "StruckWords$Reader" 31 4 3 (0, 0) := ⟨RX6, TX6, 6, tyX6, rfl, iX6, by decide, in_1 101 rfl rfl, rfl, tyX6_ok, nmX6, rfl, rfl⟩
theorem fp_6_42 : FP "StruckWords$Reader" 42 4 5 (0, 0) := ⟨RX6, TX6, 6, tyX6, rfl, iX6, by decide, in_1 104 rfl rfl, rfl, tyX6_ok, nmX6, rfl, rfl⟩
theorem fp_6_55 : FP "StruckWords$Reader" 55 5 1 (0, 0) := ⟨RX7, TX7, 2, tyX7, rfl, iX7, by decide, in_1 50 rfl rfl, rfl, tyX7_ok, nmX7, rfl, rfl⟩
theorem fp_6_60 : FP "StruckWords$Reader" 60 8 2 (0, 0) := ⟨RX10, TX10, 15, tyX10, rfl, iX10, by decide, in_1 174 rfl rfl, rfl, tyX10_ok, nmX10, rfl, rfl⟩
theorem fp_6_74 : FP "StruckWords$Reader" 74 4 1 (3, 0) := ⟨RX6, TX6, 6, tyX6, rfl, iX6, by decide, in_1 99 rfl rfl, rfl, tyX6_ok, nmX6, rfl, rfl⟩
theorem fp_6_78 : FP "StruckWords$Reader" 78 4 4 (0, 0) := ⟨RX6, TX6, 6, tyX6, rfl, iX6, by decide, in_1 102 rfl rfl, rfl, tyX6_ok, nmX6, rfl, rfl⟩
theorem fp_7_21 : FP "StruckWords$Row" 21 5 1 (0, 0) := ⟨RX7, TX7, 2, tyX7, rfl, iX7, by decide, in_1 46 rfl rfl, rfl, tyX7_ok, nmX7, rfl, rfl⟩
theorem fp_8_102 : FP "StruckWords$Tear" 102 6 1 (1, 0) := ⟨RX8, TX8, 13, tyX8, rfl, iX8, by decide, in_2 145 rfl rfl, rfl, tyX8_ok, nmX8, rfl, rfl⟩
theorem fp_8_105 : FP "StruckWords$Tear" 105 6 2 (0, 0) := ⟨RX8, TX8, 13, tyX8, rfl, iX8, by decide, in_2 147 rfl rfl, rfl, tyX8_ok, nmX8, rfl, rfl⟩
theorem fp_8_125 : FP "StruckWords$Tear" 125 6 3 (0, 0) := ⟨RX8, TX8, 13, tyX8, rfl, iX8, by decide, in_2 149 rfl rfl, rfl, tyX8_ok, nmX8, rfl, rfl⟩
theorem fp_8_128 : FP "StruckWords$Tear" 128 6 4 (0, 0) := ⟨RX8, TX8, 13, tyX8, rfl, iX8, by decide, in_2 151 rfl rfl, rfl, tyX8_ok, nmX8, rfl, rfl⟩
theorem fp_8_148 : FP "StruckWords$Tear" 148 5 1 (0, 0) := ⟨RX7, TX7, 2, tyX7, rfl, iX7, by decide, in_1 53 rfl rfl, rfl, tyX7_ok, nmX7, rfl, rfl⟩
theorem fp_8_34 : FP "StruckWords$Tear" 34 6 0 (0, 1) := ⟨RX8, TX8, 13, tyX8, rfl, iX8, by decide, in_2 143 rfl rfl, rfl, tyX8_ok, nmX8, rfl, rfl⟩
theorem fp_8_38 : FP "StruckWords$Tear" 38 6 7 (3, 0) := ⟨RX8, TX8, 13, tyX8, rfl, iX8, by decide, in_2 157 rfl rfl, rfl, tyX8_ok, nmX8, rfl, rfl⟩
theorem fp_8_48 : FP "StruckWords$Tear" 48 6 9 (0, 0) := ⟨RX8, TX8, 13, tyX8, rfl, iX8, by decide, in_2 159 rfl rfl, rfl, tyX8_ok, nmX8, rfl, rfl⟩
theorem fp_8_77 : FP "StruckWords$Tear" 77 6 5 (1, 0) := ⟨RX8, TX8, 13, tyX8, rfl, iX8, by decide, in_2 153 rfl rfl, rfl, tyX8_ok, nmX8, rfl, rfl⟩
theorem fp_9_15 : FP "StruckWords$Tokens" 15 7 1 (0, 0) := ⟨RX9, TX9, 7, tyX9, rfl, iX9, by decide, in_1 73 rfl rfl, rfl, tyX9_ok, nmX9, rfl, rfl⟩
theorem fp_9_19 : FP "StruckWords$Tokens" 19 7 2 (0, 0) := ⟨RX9, TX9, 7, tyX9, rfl, iX9, by decide, in_1 74 rfl rfl, rfl, tyX9_ok, nmX9, rfl, rfl⟩
theorem fp_9_36 : FP "StruckWords$Tokens" 36 7 4 (0, 0) := ⟨RX9, TX9, 7, tyX9, rfl, iX9, by decide, in_1 78 rfl rfl, rfl, tyX9_ok, nmX9, rfl, rfl⟩
theorem fp_9_43 : FP "StruckWords$Tokens" 43 7 5 (0, 0) := ⟨RX9, TX9, 7, tyX9, rfl, iX9, by decide, in_1 79 rfl rfl, rfl, tyX9_ok, nmX9, rfl, rfl⟩
theorem fp_9_59 : FP "StruckWords$Tokens" 59 7 3 (0, 0) := ⟨RX9, TX9, 7, tyX9, rfl, iX9, by decide, in_1 76 rfl rfl, rfl, tyX9_ok, nmX9, rfl, rfl⟩
theorem fp_9_68 : FP "StruckWords$Tokens" 68 7 6 (3, 0) := ⟨RX9, TX9, 7, tyX9, rfl, iX9, by decide, in_1 82 rfl rfl, rfl, tyX9_ok, nmX9, rfl, rfl⟩
theorem fp_9_9 : FP "StruckWords$Tokens" 9 7 0 (3, 0) := ⟨RX9, TX9, 7, tyX9, rfl, iX9, by decide, in_1 72 rfl rfl, rfl, tyX9_ok, nmX9, rfl, rfl⟩
theorem ka_4_91 : Cond.fieldLink "StruckWords$Keyword" 91 "StruckWords$Keyword" "ALL" "[LStruckWords$Keyword;" ∈ tbl := in_3 42 rfl rfl
theorem kc_4_87 : Cond.fieldLink "StruckWords$Keyword" 87 "StruckWords$Keyword" "code" "I" ∈ tbl := in_8 188 rfl rfl
theorem kf_6_136 : Cond.fieldLink "StruckWords$Reader" 136 "StruckWords$Keyword" (kwN.getD 1 "") "LStruckWords$Keyword;" ∈ tbl := in_3 82 rfl rfl
theorem kf_6_151 : Cond.fieldLink "StruckWords$Reader" 151 "StruckWords$Keyword" (kwN.getD 2 "") "LStruckWords$Keyword;" ∈ tbl := in_3 84 rfl rfl
theorem kf_6_165 : Cond.fieldLink "StruckWords$Reader" 165 "StruckWords$Keyword" (kwN.getD 6 "") "LStruckWords$Keyword;" ∈ tbl := in_3 117 rfl rfl
theorem kf_6_175 : Cond.fieldLink "StruckWords$Reader" 175 "StruckWords$Keyword" (kwN.getD 7 "") "LStruckWords$Keyword;" ∈ tbl := in_3 127 rfl rfl
theorem kf_6_181 : Cond.fieldLink "StruckWords$Reader" 181 "StruckWords$Keyword" (kwN.getD 8 "") "LStruckWords$Keyword;" ∈ tbl := in_3 129 rfl rfl
theorem kf_6_187 : Cond.fieldLink "StruckWords$Reader" 187 "StruckWords$Keyword" (kwN.getD 9 "") "LStruckWords$Keyword;" ∈ tbl := in_3 131 rfl rfl
theorem kf_6_208 : Cond.fieldLink "StruckWords$Reader" 208 "StruckWords$Keyword" (kwN.getD 11 "") "LStruckWords$Keyword;" ∈ tbl := in_3 149 rfl rfl
theorem kf_6_211 : Cond.fieldLink "StruckWords$Reader" 211 "StruckWords$Keyword" (kwN.getD 12 "") "LStruckWords$Keyword;" ∈ tbl := in_3 151 rfl rfl
theorem kf_6_214 : Cond.fieldLink "StruckWords$Reader" 214 "StruckWords$Keyword" (kwN.getD 13 "") "LStruckWords$Keyword;" ∈ tbl := in_3 153 rfl rfl
theorem ks_6_91 : Cond.fieldLink "StruckWords$Reader" 91 "StruckWords$1" "$SwitchMap$StruckWords$Keyword" "[I" ∈ tbl := in_3 53 rfl rfl
theorem ml_10_101 : Cond.methodLink "StruckWords$Tongue" 101 yX10_turnFollow ∈ tbl := in_5 62 rfl rfl
theorem ml_10_104 : Cond.methodLink "StruckWords$Tongue" 104 yX10_turnReads ∈ tbl := in_5 63 rfl rfl
theorem ml_10_107 : Cond.methodLink "StruckWords$Tongue" 107 yX10_madeOfFour ∈ tbl := in_3 180 rfl rfl
theorem ml_10_111 : Cond.methodLink "StruckWords$Tongue" 111 yX10_anyOf ∈ tbl := in_4 65 rfl rfl
theorem ml_10_47 : Cond.methodLink "StruckWords$Tongue" 47 yX10_clear ∈ tbl := in_1 150 rfl rfl
theorem ml_10_5 : Cond.methodLink "StruckWords$Tongue" 5 Lib.objectInit ∈ tbl := in_1 129 rfl rfl
theorem ml_10_60 : Cond.methodLink "StruckWords$Tongue" 60 yX1_tell ∈ tbl := in_1 154 rfl rfl
theorem ml_10_64 : Cond.methodLink "StruckWords$Tongue" 64 yJ7_fill_53178 ∈ tbl := in_1 158 rfl rfl
theorem ml_10_70 : Cond.methodLink "StruckWords$Tongue" 70 yJ7_fill_d0a16 ∈ tbl := in_1 161 rfl rfl
theorem ml_10_80 : Cond.methodLink "StruckWords$Tongue" 80 arraycopyName ∈ tbl := in_3 192 rfl rfl
theorem ml_10_94 : Cond.methodLink "StruckWords$Tongue" 94 yX10_mayFollow ∈ tbl := in_5 56 rfl rfl
theorem ml_10_98 : Cond.methodLink "StruckWords$Tongue" 98 yX10_readsAs ∈ tbl := in_5 57 rfl rfl
theorem ml_11_27 : Cond.methodLink "StruckWords$Walk" 27 yX7_init ∈ tbl := in_2 78 rfl rfl
theorem ml_11_3 : Cond.methodLink "StruckWords$Walk" 3 Lib.objectInit ∈ tbl := in_2 76 rfl rfl
theorem ml_11_50 : Cond.methodLink "StruckWords$Walk" 50 yJ9_min_7cf53 ∈ tbl := in_4 211 rfl rfl
theorem ml_11_63 : Cond.methodLink "StruckWords$Walk" 63 yX1_strikes ∈ tbl := in_4 213 rfl rfl
theorem ml_11_69 : Cond.methodLink "StruckWords$Walk" 69 yX11_beatsFit ∈ tbl := in_4 222 rfl rfl
theorem ml_11_72 : Cond.methodLink "StruckWords$Walk" 72 yX10_stepped ∈ tbl := in_4 226 rfl rfl
theorem ml_11_76 : Cond.methodLink "StruckWords$Walk" 76 yX11_meets ∈ tbl := in_4 227 rfl rfl
theorem ml_11_81 : Cond.methodLink "StruckWords$Walk" 81 yX10_meant ∈ tbl := in_4 231 rfl rfl
theorem ml_11_85 : Cond.methodLink "StruckWords$Walk" 85 yJ6_bitCount_0f7a4 ∈ tbl := in_4 232 rfl rfl
theorem ml_12_11 : Cond.methodLink "StruckWords" 11 yX7_init ∈ tbl := in_1 34 rfl rfl
theorem ml_12_125 : Cond.methodLink "StruckWords" 125 yJ6_bitCount_0f7a4 ∈ tbl := in_4 146 rfl rfl
theorem ml_12_131 : Cond.methodLink "StruckWords" 131 yX12_isMeaning ∈ tbl := in_3 203 rfl rfl
theorem ml_12_134 : Cond.methodLink "StruckWords" 134 yX10_hasSort ∈ tbl := in_3 210 rfl rfl
theorem ml_12_137 : Cond.methodLink "StruckWords" 137 yX10_readsAs ∈ tbl := in_3 214 rfl rfl
theorem ml_12_141 : Cond.methodLink "StruckWords" 141 yX10_made ∈ tbl := in_3 215 rfl rfl
theorem ml_12_145 : Cond.methodLink "StruckWords" 145 yX6_readText ∈ tbl := in_3 223 rfl rfl
theorem ml_12_152 : Cond.methodLink "StruckWords" 152 yX7_copyFrom ∈ tbl := in_3 228 rfl rfl
theorem ml_12_156 : Cond.methodLink "StruckWords" 156 yX12_rowFromTape ∈ tbl := in_3 238 rfl rfl
theorem ml_12_162 : Cond.methodLink "StruckWords" 162 yX10_readAlike ∈ tbl := in_4 6 rfl rfl
theorem ml_12_165 : Cond.methodLink "StruckWords" 165 yX10_allWeighs ∈ tbl := in_4 14 rfl rfl
theorem ml_12_170 : Cond.methodLink "StruckWords" 170 yX10_weighedAt ∈ tbl := in_4 19 rfl rfl
theorem ml_12_173 : Cond.methodLink "StruckWords" 173 yX7_put ∈ tbl := in_2 237 rfl rfl
theorem ml_12_176 : Cond.methodLink "StruckWords" 176 yX12_isBeginningOrAll ∈ tbl := in_4 27 rfl rfl
theorem ml_12_179 : Cond.methodLink "StruckWords" 179 yX3_strike ∈ tbl := in_4 35 rfl rfl
theorem ml_12_183 : Cond.methodLink "StruckWords" 183 yX7_atOrNone ∈ tbl := in_4 48 rfl rfl
theorem ml_12_186 : Cond.methodLink "StruckWords" 186 yX3_meansBy ∈ tbl := in_4 56 rfl rfl
theorem ml_12_190 : Cond.methodLink "StruckWords" 190 yX3_countReadings ∈ tbl := in_4 76 rfl rfl
theorem ml_12_196 : Cond.methodLink "StruckWords" 196 yX3_readFirst ∈ tbl := in_4 97 rfl rfl
theorem ml_12_200 : Cond.methodLink "StruckWords" 200 yX3_sortRead ∈ tbl := in_4 107 rfl rfl
theorem ml_12_203 : Cond.methodLink "StruckWords" 203 yX3_turnsOf ∈ tbl := in_4 115 rfl rfl
theorem ml_12_219 : Cond.methodLink "StruckWords" 219 yX12_areAgainst ∈ tbl := in_4 124 rfl rfl
theorem ml_12_223 : Cond.methodLink "StruckWords" 223 yX12_isBeginning ∈ tbl := in_4 31 rfl rfl
theorem ml_12_229 : Cond.methodLink "StruckWords" 229 yX3_meanTheSame ∈ tbl := in_4 138 rfl rfl
theorem ml_12_241 : Cond.methodLink "StruckWords" 241 yX3_beatsBy ∈ tbl := in_4 156 rfl rfl
theorem ml_12_244 : Cond.methodLink "StruckWords" 244 yX3_waysOfLetters ∈ tbl := in_4 164 rfl rfl
theorem ml_12_248 : Cond.methodLink "StruckWords" 248 yX12_findWithBeats ∈ tbl := in_4 187 rfl rfl
theorem ml_12_252 : Cond.methodLink "StruckWords" 252 yX12_goalsFromTape ∈ tbl := in_4 191 rfl rfl
theorem ml_12_256 : Cond.methodLink "StruckWords" 256 yX2_seekCheapest ∈ tbl := in_5 1 rfl rfl
theorem ml_12_263 : Cond.methodLink "StruckWords" 263 yX2_wantByAll ∈ tbl := in_5 18 rfl rfl
theorem ml_12_267 : Cond.methodLink "StruckWords" 267 yX2_seekShortest ∈ tbl := in_4 203 rfl rfl
theorem ml_12_27 : Cond.methodLink "StruckWords" 27 yX5_init ∈ tbl := in_1 120 rfl rfl
theorem ml_12_271 : Cond.methodLink "StruckWords" 271 yX2_collectSafe ∈ tbl := in_5 31 rfl rfl
theorem ml_12_274 : Cond.methodLink "StruckWords" 274 yX12_mostSayableWith ∈ tbl := in_5 48 rfl rfl
theorem ml_12_278 : Cond.methodLink "StruckWords" 278 yX2_seekShortestBy ∈ tbl := in_5 73 rfl rfl
theorem ml_12_282 : Cond.methodLink "StruckWords" 282 yX2_seekMended ∈ tbl := in_5 83 rfl rfl
theorem ml_12_285 : Cond.methodLink "StruckWords" 285 yX2_foundRow ∈ tbl := in_4 233 rfl rfl
theorem ml_12_289 : Cond.methodLink "StruckWords" 289 yX1_leftOf ∈ tbl := in_5 96 rfl rfl
theorem ml_12_292 : Cond.methodLink "StruckWords" 292 yX8_look ∈ tbl := in_5 101 rfl rfl
theorem ml_12_3 : Cond.methodLink "StruckWords" 3 Lib.objectInit ∈ tbl := in_1 29 rfl rfl
theorem ml_12_326 : Cond.methodLink "StruckWords" 326 yX5_copyFrom ∈ tbl := in_5 183 rfl rfl
theorem ml_12_335 : Cond.methodLink "StruckWords" 335 yX10_isTold ∈ tbl := in_5 52 rfl rfl
theorem ml_12_339 : Cond.methodLink "StruckWords" 339 yX10_turnTold ∈ tbl := in_5 58 rfl rfl
theorem ml_12_343 : Cond.methodLink "StruckWords" 343 yJ9_max_7cf53 ∈ tbl := in_5 64 rfl rfl
theorem ml_12_348 : Cond.methodLink "StruckWords" 348 yX2_wantBeats ∈ tbl := in_4 199 rfl rfl
theorem ml_12_351 : Cond.methodLink "StruckWords" 351 yX2_want ∈ tbl := in_4 195 rfl rfl
theorem ml_12_354 : Cond.methodLink "StruckWords" 354 yX12_meaningsWith ∈ tbl := in_4 127 rfl rfl
theorem ml_12_66 : Cond.methodLink "StruckWords" 66 yX10_init ∈ tbl := in_2 191 rfl rfl
theorem ml_12_78 : Cond.methodLink "StruckWords" 78 yX12_putBytes ∈ tbl := in_2 233 rfl rfl
theorem ml_12_81 : Cond.methodLink "StruckWords" 81 yX6_readTongue ∈ tbl := in_3 9 rfl rfl
theorem ml_12_91 : Cond.methodLink "StruckWords" 91 yX5_begin ∈ tbl := in_3 184 rfl rfl
theorem ml_12_98 : Cond.methodLink "StruckWords" 98 yX10_hasSaying ∈ tbl := in_3 206 rfl rfl
theorem ml_13_10 : Cond.methodLink "StruckWordsModel" 10 yX13_four ∈ tbl := in_6 49 rfl rfl
theorem ml_13_159 : Cond.methodLink "StruckWordsModel" 159 yX13_plainTongue ∈ tbl := in_6 79 rfl rfl
theorem ml_13_162 : Cond.methodLink "StruckWordsModel" 162 yX13_peek ∈ tbl := in_7 27 rfl rfl
theorem ml_13_175 : Cond.methodLink "StruckWordsModel" 175 yX13_isSmall ∈ tbl := in_7 31 rfl rfl
theorem ml_13_179 : Cond.methodLink "StruckWordsModel" 179 yX13_isDigit ∈ tbl := in_7 34 rfl rfl
theorem ml_13_195 : Cond.methodLink "StruckWordsModel" 195 yX13_isSign ∈ tbl := in_7 103 rfl rfl
theorem ml_13_198 : Cond.methodLink "StruckWordsModel" 198 yX13_bad ∈ tbl := in_7 49 rfl rfl
theorem ml_13_201 : Cond.methodLink "StruckWordsModel" 201 yX13_next ∈ tbl := in_7 23 rfl rfl
theorem ml_13_204 : Cond.methodLink "StruckWordsModel" 204 yX13_isIn ∈ tbl := in_7 81 rfl rfl
theorem ml_13_211 : Cond.methodLink "StruckWordsModel" 211 yX13_isName ∈ tbl := in_7 57 rfl rfl
theorem ml_13_215 : Cond.methodLink "StruckWordsModel" 215 yX13_find ∈ tbl := in_7 61 rfl rfl
theorem ml_13_219 : Cond.methodLink "StruckWordsModel" 219 yX13_isWord ∈ tbl := in_7 41 rfl rfl
theorem ml_13_223 : Cond.methodLink "StruckWordsModel" 223 yX13_readSort ∈ tbl := in_7 45 rfl rfl
theorem ml_13_226 : Cond.methodLink "StruckWordsModel" 226 yX13_fresh ∈ tbl := in_7 53 rfl rfl
theorem ml_13_229 : Cond.methodLink "StruckWordsModel" 229 yX13_readFollow ∈ tbl := in_7 65 rfl rfl
theorem ml_13_232 : Cond.methodLink "StruckWordsModel" 232 yX13_readWord ∈ tbl := in_7 73 rfl rfl
theorem ml_13_235 : Cond.methodLink "StruckWordsModel" 235 yX13_readReads ∈ tbl := in_7 84 rfl rfl
theorem ml_13_238 : Cond.methodLink "StruckWordsModel" 238 yX13_readEdict ∈ tbl := in_7 88 rfl rfl
theorem ml_13_241 : Cond.methodLink "StruckWordsModel" 241 yX13_readClerk ∈ tbl := in_7 92 rfl rfl
theorem ml_13_244 : Cond.methodLink "StruckWordsModel" 244 yX13_takesName ∈ tbl := in_7 69 rfl rfl
theorem ml_13_248 : Cond.methodLink "StruckWordsModel" 248 yX13_takes ∈ tbl := in_7 77 rfl rfl
theorem ml_13_257 : Cond.methodLink "StruckWordsModel" 257 yX13_has ∈ tbl := in_7 96 rfl rfl
theorem ml_13_260 : Cond.methodLink "StruckWordsModel" 260 yX13_taken ∈ tbl := in_7 19 rfl rfl
theorem ml_13_266 : Cond.methodLink "StruckWordsModel" 266 yX13_line ∈ tbl := in_7 37 rfl rfl
theorem ml_13_269 : Cond.methodLink "StruckWordsModel" 269 yX13_sign ∈ tbl := in_7 99 rfl rfl
theorem ml_13_27 : Cond.methodLink "StruckWordsModel" 27 Lib.objectInit ∈ tbl := in_6 62 rfl rfl
theorem ml_13_272 : Cond.methodLink "StruckWordsModel" 272 yX13_isSaying ∈ tbl := in_7 115 rfl rfl
theorem ml_13_275 : Cond.methodLink "StruckWordsModel" 275 yX13_throwsIf ∈ tbl := in_7 119 rfl rfl
theorem ml_13_279 : Cond.methodLink "StruckWordsModel" 279 yX13_keep ∈ tbl := in_7 135 rfl rfl
theorem ml_13_283 : Cond.methodLink "StruckWordsModel" 283 yX13_octet ∈ tbl := in_7 143 rfl rfl
theorem ml_13_291 : Cond.methodLink "StruckWordsModel" 291 yX13_draw ∈ tbl := in_7 151 rfl rfl
theorem ml_13_300 : Cond.methodLink "StruckWordsModel" 300 yX13_isStruck ∈ tbl := in_7 172 rfl rfl
theorem ml_13_306 : Cond.methodLink "StruckWordsModel" 306 yX13_leave ∈ tbl := in_7 168 rfl rfl
theorem ml_13_310 : Cond.methodLink "StruckWordsModel" 310 yX13_isBeginning ∈ tbl := in_7 160 rfl rfl
theorem ml_13_313 : Cond.methodLink "StruckWordsModel" 313 yX13_leaveText ∈ tbl := in_7 164 rfl rfl
theorem ml_13_320 : Cond.methodLink "StruckWordsModel" 320 yX13_comes ∈ tbl := in_7 197 rfl rfl
theorem ml_13_324 : Cond.methodLink "StruckWordsModel" 324 yX13_ends ∈ tbl := in_7 202 rfl rfl
theorem ml_13_328 : Cond.methodLink "StruckWordsModel" 328 yX13_settle ∈ tbl := in_7 188 rfl rfl
theorem ml_13_331 : Cond.methodLink "StruckWordsModel" 331 yX13_meant ∈ tbl := in_7 192 rfl rfl
theorem ml_13_335 : Cond.methodLink "StruckWordsModel" 335 yX13_textMeans ∈ tbl := in_7 184 rfl rfl
theorem ml_13_338 : Cond.methodLink "StruckWordsModel" 338 yX13_count ∈ tbl := in_7 210 rfl rfl
theorem ml_13_341 : Cond.methodLink "StruckWordsModel" 341 yX13_isAll ∈ tbl := in_7 226 rfl rfl
theorem ml_13_345 : Cond.methodLink "StruckWordsModel" 345 yX13_only ∈ tbl := in_8 1 rfl rfl
theorem ml_13_348 : Cond.methodLink "StruckWordsModel" 348 yX13_common ∈ tbl := in_8 8 rfl rfl
theorem ml_13_359 : Cond.methodLink "StruckWordsModel" 359 yX13_step ∈ tbl := in_8 40 rfl rfl
theorem ml_13_362 : Cond.methodLink "StruckWordsModel" 362 yX13_meansNow ∈ tbl := in_8 52 rfl rfl
theorem ml_13_365 : Cond.methodLink "StruckWordsModel" 365 yX13_begin ∈ tbl := in_8 32 rfl rfl
theorem ml_13_368 : Cond.methodLink "StruckWordsModel" 368 yX13_nextRow ∈ tbl := in_8 36 rfl rfl
theorem ml_13_371 : Cond.methodLink "StruckWordsModel" 371 yX13_hasBeats ∈ tbl := in_8 44 rfl rfl
theorem ml_13_374 : Cond.methodLink "StruckWordsModel" 374 yX13_meetsGoals ∈ tbl := in_8 48 rfl rfl
theorem ml_13_380 : Cond.methodLink "StruckWordsModel" 380 yX13_takesGoals ∈ tbl := in_8 24 rfl rfl
theorem ml_13_383 : Cond.methodLink "StruckWordsModel" 383 yX13_shortest ∈ tbl := in_8 28 rfl rfl
theorem ml_13_386 : Cond.methodLink "StruckWordsModel" 386 yX13_keepRow ∈ tbl := in_8 56 rfl rfl
theorem ml_13_389 : Cond.methodLink "StruckWordsModel" 389 yX13_sayableIn ∈ tbl := in_8 84 rfl rfl
theorem ml_13_392 : Cond.methodLink "StruckWordsModel" 392 yX13_many ∈ tbl := in_8 92 rfl rfl
theorem ml_13_395 : Cond.methodLink "StruckWordsModel" 395 yX13_placesBehind ∈ tbl := in_8 107 rfl rfl
theorem ml_13_399 : Cond.methodLink "StruckWordsModel" 399 yX13_mends ∈ tbl := in_8 103 rfl rfl
theorem ml_13_402 : Cond.methodLink "StruckWordsModel" 402 yX13_mayBe ∈ tbl := in_8 119 rfl rfl
theorem ml_13_405 : Cond.methodLink "StruckWordsModel" 405 yX13_bestFrom ∈ tbl := in_8 127 rfl rfl
theorem ml_13_412 : Cond.methodLink "StruckWordsModel" 412 yX13_comesFrom ∈ tbl := in_8 131 rfl rfl
theorem ml_13_418 : Cond.methodLink "StruckWordsModel" 418 yX13_meantTorn ∈ tbl := in_8 115 rfl rfl
theorem ml_13_421 : Cond.methodLink "StruckWordsModel" 421 yX13_likely ∈ tbl := in_8 123 rfl rfl
theorem ml_13_427 : Cond.methodLink "StruckWordsModel" 427 yX13_countTorn ∈ tbl := in_8 135 rfl rfl
theorem ml_1_1 : Cond.methodLink "StruckWords$Edict" 1 Lib.objectInit ∈ tbl := in_1 135 rfl rfl
theorem ml_1_16 : Cond.methodLink "StruckWords$Edict" 16 yX1_strikes ∈ tbl := in_5 100 rfl rfl
theorem ml_2_102 : Cond.methodLink "StruckWords$Finder" 102 yX2_wantByAll ∈ tbl := in_5 35 rfl rfl
theorem ml_2_105 : Cond.methodLink "StruckWords$Finder" 105 yX2_collect ∈ tbl := in_5 36 rfl rfl
theorem ml_2_109 : Cond.methodLink "StruckWords$Finder" 109 yX11_agreed ∈ tbl := in_5 40 rfl rfl
theorem ml_2_116 : Cond.methodLink "StruckWords$Finder" 116 yX2_seekWithIdle ∈ tbl := in_5 87 rfl rfl
theorem ml_2_119 : Cond.methodLink "StruckWords$Finder" 119 yX7_atOrNone ∈ tbl := in_5 91 rfl rfl
theorem ml_2_27 : Cond.methodLink "StruckWords$Finder" 27 yX7_init ∈ tbl := in_2 114 rfl rfl
theorem ml_2_3 : Cond.methodLink "StruckWords$Finder" 3 Lib.objectInit ∈ tbl := in_2 70 rfl rfl
theorem ml_2_38 : Cond.methodLink "StruckWords$Finder" 38 yJ7_fill_53178 ∈ tbl := in_5 22 rfl rfl
theorem ml_2_51 : Cond.methodLink "StruckWords$Finder" 51 yX1_tell ∈ tbl := in_5 77 rfl rfl
theorem ml_2_55 : Cond.methodLink "StruckWords$Finder" 55 yX2_seekShortest ∈ tbl := in_5 78 rfl rfl
theorem ml_2_63 : Cond.methodLink "StruckWords$Finder" 63 yX11_begin ∈ tbl := in_4 207 rfl rfl
theorem ml_2_70 : Cond.methodLink "StruckWords$Finder" 70 yX2_seek ∈ tbl := in_4 214 rfl rfl
theorem ml_2_82 : Cond.methodLink "StruckWords$Finder" 82 yX11_put ∈ tbl := in_4 218 rfl rfl
theorem ml_2_92 : Cond.methodLink "StruckWords$Finder" 92 yX2_seekCheaper ∈ tbl := in_5 5 rfl rfl
theorem ml_2_95 : Cond.methodLink "StruckWords$Finder" 95 yX7_copyFrom ∈ tbl := in_5 9 rfl rfl
theorem ml_3_104 : Cond.methodLink "StruckWords$Judge" 104 yX10_mayEnd ∈ tbl := in_4 88 rfl rfl
theorem ml_3_108 : Cond.methodLink "StruckWords$Judge" 108 yX10_readsAs ∈ tbl := in_4 85 rfl rfl
theorem ml_3_11 : Cond.methodLink "StruckWords$Judge" 11 yX7_init ∈ tbl := in_2 38 rfl rfl
theorem ml_3_111 : Cond.methodLink "StruckWords$Judge" 111 yX10_mayFollow ∈ tbl := in_4 86 rfl rfl
theorem ml_3_114 : Cond.methodLink "StruckWords$Judge" 114 arraycopyName ∈ tbl := in_4 87 rfl rfl
theorem ml_3_120 : Cond.methodLink "StruckWords$Judge" 120 yX3_leadsTo ∈ tbl := in_4 101 rfl rfl
theorem ml_3_124 : Cond.methodLink "StruckWords$Judge" 124 yX3_firstBehind ∈ tbl := in_4 104 rfl rfl
theorem ml_3_128 : Cond.methodLink "StruckWords$Judge" 128 yX3_strikeLetters ∈ tbl := in_4 168 rfl rfl
theorem ml_3_141 : Cond.methodLink "StruckWords$Judge" 141 yX3_lettersBefore ∈ tbl := in_4 175 rfl rfl
theorem ml_3_147 : Cond.methodLink "StruckWords$Judge" 147 yJ9_min_f86c9 ∈ tbl := in_4 180 rfl rfl
theorem ml_3_153 : Cond.methodLink "StruckWords$Judge" 153 yX9_letterFromLast ∈ tbl := in_4 172 rfl rfl
theorem ml_3_3 : Cond.methodLink "StruckWords$Judge" 3 Lib.objectInit ∈ tbl := in_2 36 rfl rfl
theorem ml_3_59 : Cond.methodLink "StruckWords$Judge" 59 yX1_strikes ∈ tbl := in_4 39 rfl rfl
theorem ml_3_68 : Cond.methodLink "StruckWords$Judge" 68 yX7_put ∈ tbl := in_4 43 rfl rfl
theorem ml_3_73 : Cond.methodLink "StruckWords$Judge" 73 yX10_stepped ∈ tbl := in_4 61 rfl rfl
theorem ml_3_77 : Cond.methodLink "StruckWords$Judge" 77 yX10_meant ∈ tbl := in_4 68 rfl rfl
theorem ml_3_81 : Cond.methodLink "StruckWords$Judge" 81 yX3_meansBy ∈ tbl := in_4 119 rfl rfl
theorem ml_3_91 : Cond.methodLink "StruckWords$Judge" 91 yJ7_fill_d0a16 ∈ tbl := in_4 80 rfl rfl
theorem ml_3_97 : Cond.methodLink "StruckWords$Judge" 97 yX3_countWith ∈ tbl := in_4 81 rfl rfl
theorem ml_5_11 : Cond.methodLink "StruckWords$Matter" 11 yX10_init ∈ tbl := in_1 126 rfl rfl
theorem ml_5_20 : Cond.methodLink "StruckWords$Matter" 20 yX7_init ∈ tbl := in_2 9 rfl rfl
theorem ml_5_3 : Cond.methodLink "StruckWords$Matter" 3 Lib.objectInit ∈ tbl := in_1 123 rfl rfl
theorem ml_5_31 : Cond.methodLink "StruckWords$Matter" 31 yX10_copyFrom ∈ tbl := in_3 188 rfl rfl
theorem ml_5_42 : Cond.methodLink "StruckWords$Matter" 42 yX7_copyFrom ∈ tbl := in_5 187 rfl rfl
theorem ml_6_103 : Cond.methodLink "StruckWords$Reader" 103 yX6_readSort ∈ tbl := in_3 61 rfl rfl
theorem ml_6_106 : Cond.methodLink "StruckWords$Reader" 106 yX6_readClose ∈ tbl := in_3 88 rfl rfl
theorem ml_6_109 : Cond.methodLink "StruckWords$Reader" 109 yX6_readMark ∈ tbl := in_3 92 rfl rfl
theorem ml_6_112 : Cond.methodLink "StruckWords$Reader" 112 yX6_readFollow ∈ tbl := in_3 96 rfl rfl
theorem ml_6_115 : Cond.methodLink "StruckWords$Reader" 115 yX6_readWord ∈ tbl := in_3 113 rfl rfl
theorem ml_6_118 : Cond.methodLink "StruckWords$Reader" 118 yX6_readReads ∈ tbl := in_3 133 rfl rfl
theorem ml_6_121 : Cond.methodLink "StruckWords$Reader" 121 yX6_readEdict ∈ tbl := in_3 163 rfl rfl
theorem ml_6_124 : Cond.methodLink "StruckWords$Reader" 124 yX6_readClerk ∈ tbl := in_3 168 rfl rfl
theorem ml_6_130 : Cond.methodLink "StruckWords$Reader" 130 yX6_readNewName ∈ tbl := in_3 65 rfl rfl
theorem ml_6_133 : Cond.methodLink "StruckWords$Reader" 133 yX6_isBeginsOrEnds ∈ tbl := in_3 78 rfl rfl
theorem ml_6_157 : Cond.methodLink "StruckWords$Reader" 157 yX10_mayFollow ∈ tbl := in_3 104 rfl rfl
theorem ml_6_161 : Cond.methodLink "StruckWords$Reader" 161 yX10_turnFollow ∈ tbl := in_3 108 rfl rfl
theorem ml_6_171 : Cond.methodLink "StruckWords$Reader" 171 yX6_readOption ∈ tbl := in_3 119 rfl rfl
theorem ml_6_18 : Cond.methodLink "StruckWords$Reader" 18 yX6_begin ∈ tbl := in_3 13 rfl rfl
theorem ml_6_193 : Cond.methodLink "StruckWords$Reader" 193 yX6_numberHere ∈ tbl := in_3 123 rfl rfl
theorem ml_6_196 : Cond.methodLink "StruckWords$Reader" 196 yX10_readsAs ∈ tbl := in_3 137 rfl rfl
theorem ml_6_199 : Cond.methodLink "StruckWords$Reader" 199 yX10_turnReads ∈ tbl := in_3 141 rfl rfl
theorem ml_6_202 : Cond.methodLink "StruckWords$Reader" 202 yX6_isChange ∈ tbl := in_3 145 rfl rfl
theorem ml_6_205 : Cond.methodLink "StruckWords$Reader" 205 yX6_readChange ∈ tbl := in_3 155 rfl rfl
theorem ml_6_217 : Cond.methodLink "StruckWords$Reader" 217 yX10_change ∈ tbl := in_3 159 rfl rfl
theorem ml_6_22 : Cond.methodLink "StruckWords$Reader" 22 yX10_clear ∈ tbl := in_3 44 rfl rfl
theorem ml_6_225 : Cond.methodLink "StruckWords$Reader" 225 yX1_tell ∈ tbl := in_3 167 rfl rfl
theorem ml_6_236 : Cond.methodLink "StruckWords$Reader" 236 yX6_isNameHere ∈ tbl := in_3 70 rfl rfl
theorem ml_6_239 : Cond.methodLink "StruckWords$Reader" 239 yX6_indexOfName ∈ tbl := in_3 74 rfl rfl
theorem ml_6_3 : Cond.methodLink "StruckWords$Reader" 3 Lib.objectInit ∈ tbl := in_1 65 rfl rfl
theorem ml_6_38 : Cond.methodLink "StruckWords$Reader" 38 yX6_readLine ∈ tbl := in_3 45 rfl rfl
theorem ml_6_45 : Cond.methodLink "StruckWords$Reader" 45 yX9_isTooLong ∈ tbl := in_3 172 rfl rfl
theorem ml_6_48 : Cond.methodLink "StruckWords$Reader" 48 yX6_refuse ∈ tbl := in_3 49 rfl rfl
theorem ml_6_52 : Cond.methodLink "StruckWords$Reader" 52 yX10_settle ∈ tbl := in_3 176 rfl rfl
theorem ml_6_63 : Cond.methodLink "StruckWords$Reader" 63 yX6_toldHere ∈ tbl := in_3 100 rfl rfl
theorem ml_6_67 : Cond.methodLink "StruckWords$Reader" 67 yX7_put ∈ tbl := in_3 227 rfl rfl
theorem ml_6_71 : Cond.methodLink "StruckWords$Reader" 71 yX9_advance ∈ tbl := in_3 69 rfl rfl
theorem ml_6_81 : Cond.methodLink "StruckWords$Reader" 81 yX9_begin ∈ tbl := in_3 17 rfl rfl
theorem ml_6_97 : Cond.methodLink "StruckWords$Reader" 97 ⟨"StruckWords$Keyword", "ordinal", "()I"⟩ ∈ tbl := in_3 55 rfl rfl
theorem ml_7_25 : Cond.methodLink "StruckWords$Row" 25 yJ9_min_7cf53 ∈ tbl := in_3 232 rfl rfl
theorem ml_7_28 : Cond.methodLink "StruckWords$Row" 28 arraycopyName ∈ tbl := in_3 233 rfl rfl
theorem ml_7_3 : Cond.methodLink "StruckWords$Row" 3 Lib.objectInit ∈ tbl := in_1 37 rfl rfl
theorem ml_7_9 : Cond.methodLink "StruckWords$Row" 9 yJ9_max_7cf53 ∈ tbl := in_1 38 rfl rfl
theorem ml_8_108 : Cond.methodLink "StruckWords$Tear" 108 yX10_mayEnd ∈ tbl := in_5 128 rfl rfl
theorem ml_8_11 : Cond.methodLink "StruckWords$Tear" 11 yX7_init ∈ tbl := in_2 142 rfl rfl
theorem ml_8_115 : Cond.methodLink "StruckWords$Tear" 115 yX10_mayFollow ∈ tbl := in_5 117 rfl rfl
theorem ml_8_118 : Cond.methodLink "StruckWords$Tear" 118 yX10_readsAs ∈ tbl := in_5 126 rfl rfl
theorem ml_8_121 : Cond.methodLink "StruckWords$Tear" 121 yX10_made ∈ tbl := in_5 127 rfl rfl
theorem ml_8_137 : Cond.methodLink "StruckWords$Tear" 137 yX8_weighWith ∈ tbl := in_5 138 rfl rfl
theorem ml_8_141 : Cond.methodLink "StruckWords$Tear" 141 yX8_weightAt ∈ tbl := in_5 142 rfl rfl
theorem ml_8_151 : Cond.methodLink "StruckWords$Tear" 151 yX8_firstAt ∈ tbl := in_5 150 rfl rfl
theorem ml_8_155 : Cond.methodLink "StruckWords$Tear" 155 yX7_put ∈ tbl := in_5 158 rfl rfl
theorem ml_8_158 : Cond.methodLink "StruckWords$Tear" 158 yX8_sortsBehind ∈ tbl := in_5 154 rfl rfl
theorem ml_8_3 : Cond.methodLink "StruckWords$Tear" 3 Lib.objectInit ∈ tbl := in_2 140 rfl rfl
theorem ml_8_42 : Cond.methodLink "StruckWords$Tear" 42 yJ9_min_7cf53 ∈ tbl := in_5 105 rfl rfl
theorem ml_8_58 : Cond.methodLink "StruckWords$Tear" 58 yX1_strikes ∈ tbl := in_5 106 rfl rfl
theorem ml_8_64 : Cond.methodLink "StruckWords$Tear" 64 yX7_atOrNone ∈ tbl := in_5 107 rfl rfl
theorem ml_8_68 : Cond.methodLink "StruckWords$Tear" 68 yX8_countAll ∈ tbl := in_5 108 rfl rfl
theorem ml_8_71 : Cond.methodLink "StruckWords$Tear" 71 yX8_tellSure ∈ tbl := in_5 129 rfl rfl
theorem ml_8_74 : Cond.methodLink "StruckWords$Tear" 74 yX8_weighAll ∈ tbl := in_5 134 rfl rfl
theorem ml_8_81 : Cond.methodLink "StruckWords$Tear" 81 yX8_chooseRow ∈ tbl := in_5 146 rfl rfl
theorem ml_8_84 : Cond.methodLink "StruckWords$Tear" 84 yJ7_fill_d0a16 ∈ tbl := in_5 112 rfl rfl
theorem ml_8_90 : Cond.methodLink "StruckWords$Tear" 90 yX8_sumWhatIsAhead ∈ tbl := in_5 113 rfl rfl
theorem ml_8_96 : Cond.methodLink "StruckWords$Tear" 96 yX8_mayStandAt ∈ tbl := in_5 118 rfl rfl
theorem ml_8_99 : Cond.methodLink "StruckWords$Tear" 99 yX8_countWith ∈ tbl := in_5 122 rfl rfl
theorem ml_9_22 : Cond.methodLink "StruckWords$Tokens" 22 yX9_advance ∈ tbl := in_3 21 rfl rfl
theorem ml_9_3 : Cond.methodLink "StruckWords$Tokens" 3 Lib.objectInit ∈ tbl := in_1 71 rfl rfl
theorem ml_9_30 : Cond.methodLink "StruckWords$Tokens" 30 yJ9_min_7cf53 ∈ tbl := in_3 25 rfl rfl
theorem ml_9_46 : Cond.methodLink "StruckWords$Tokens" 46 yX9_isOfWord ∈ tbl := in_3 28 rfl rfl
theorem ml_9_50 : Cond.methodLink "StruckWords$Tokens" 50 yX9_withLetter ∈ tbl := in_3 31 rfl rfl
theorem ml_9_53 : Cond.methodLink "StruckWords$Tokens" 53 yJ9_max_7cf53 ∈ tbl := in_3 34 rfl rfl
theorem ml_9_56 : Cond.methodLink "StruckWords$Tokens" 56 yX9_kindOf ∈ tbl := in_3 35 rfl rfl
theorem ml_9_62 : Cond.methodLink "StruckWords$Tokens" 62 yX4_of ∈ tbl := in_3 39 rfl rfl
theorem mn_8_134 : "StruckWords$Tear" = "StruckWords$Tear" ∧ 134 = 134 ∧ yX12_meaningsWith = ⟨"StruckWords", "meaningsWith", "(I)I"⟩ := ⟨rfl, rfl, rfl⟩
