/-! ===== the law: its cases ===== -/
theorem ca_X12_add : Cal yX12_add cX12_add 1 (some .int) 0 := ⟨in_5 170 rfl rfl, in_1 1 rfl rfl, by decide +kernel, by decide⟩
theorem ca_X12_against : Cal yX12_against cX12_against 5 (some .int) 1 := ⟨in_4 123 rfl rfl, in_1 1 rfl rfl, by decide +kernel, by decide⟩
theorem ca_X12_alike : Cal yX12_alike cX12_alike 5 (some .int) 1 := ⟨in_4 5 rfl rfl, in_1 1 rfl rfl, by decide +kernel, by decide⟩
theorem ca_X12_becomes : Cal yX12_becomes cX12_becomes 5 (some .int) 3 := ⟨in_3 202 rfl rfl, in_1 1 rfl rfl, by decide +kernel, by decide⟩
theorem ca_X12_book : Cal yX12_book cX12_book 5 (some .int) 1 := ⟨in_5 178 rfl rfl, in_1 1 rfl rfl, by decide +kernel, by decide⟩
theorem ca_X12_cheapest : Cal yX12_cheapest cX12_cheapest 3 (some .int) 1 := ⟨in_5 0 rfl rfl, in_1 1 rfl rfl, by decide +kernel, by decide⟩
theorem ca_X12_count : Cal yX12_count cX12_count 2 (some .int) 1 := ⟨in_5 195 rfl rfl, in_1 1 rfl rfl, by decide +kernel, by decide⟩
theorem ca_X12_drawn : Cal yX12_drawn cX12_drawn 7 (some .int) 2 := ⟨in_4 13 rfl rfl, in_1 1 rfl rfl, by decide +kernel, by decide⟩
theorem ca_X12_end : Cal yX12_end cX12_end 2 (some .boolean) 1 := ⟨in_3 4 rfl rfl, in_1 1 rfl rfl, by decide +kernel, by decide⟩
theorem ca_X12_fault : Cal yX12_fault cX12_fault 1 (some .int) 0 := ⟨in_3 198 rfl rfl, in_1 1 rfl rfl, by decide +kernel, by decide⟩
theorem ca_X12_feed : Cal yX12_feed cX12_feed 6 (some .int) 5 := ⟨in_2 232 rfl rfl, in_1 1 rfl rfl, by decide +kernel, by decide⟩
theorem ca_X12_find : Cal yX12_find cX12_find 2 (some .int) 1 := ⟨in_4 186 rfl rfl, in_1 1 rfl rfl, by decide +kernel, by decide⟩
theorem ca_X12_foundAt : Cal yX12_foundAt cX12_foundAt 2 (some .int) 1 := ⟨in_5 26 rfl rfl, in_1 1 rfl rfl, by decide +kernel, by decide⟩
theorem ca_X12_image : Cal yX12_image cX12_image 2 (some .boolean) 1 := ⟨in_5 182 rfl rfl, in_1 1 rfl rfl, by decide +kernel, by decide⟩
theorem ca_X12_known : Cal yX12_known cX12_known 6 (some .int) 2 := ⟨in_6 36 rfl rfl, in_1 1 rfl rfl, by decide +kernel, by decide⟩
theorem ca_X12_lay : Cal yX12_lay cX12_lay 2 (some .int) 0 := ⟨in_3 237 rfl rfl, in_1 1 rfl rfl, by decide +kernel, by decide⟩
theorem ca_X12_left : Cal yX12_left cX12_left 2 (some .int) 1 := ⟨in_4 26 rfl rfl, in_1 1 rfl rfl, by decide +kernel, by decide⟩
theorem ca_X12_leftAt : Cal yX12_leftAt cX12_leftAt 3 (some .int) 2 := ⟨in_4 47 rfl rfl, in_1 1 rfl rfl, by decide +kernel, by decide⟩
theorem ca_X12_lend : Cal yX12_lend cX12_lend 2 (some .int) 1 := ⟨in_5 68 rfl rfl, in_1 1 rfl rfl, by decide +kernel, by decide⟩
theorem ca_X12_letters : Cal yX12_letters cX12_letters 2 (some .long) 1 := ⟨in_4 163 rfl rfl, in_1 1 rfl rfl, by decide +kernel, by decide⟩
theorem ca_X12_likeliest : Cal yX12_likeliest cX12_likeliest 1 (some .long) 0 := ⟨in_5 166 rfl rfl, in_1 1 rfl rfl, by decide +kernel, by decide⟩
theorem ca_X12_link : Cal yX12_link cX12_link 2 (some .int) 1 := ⟨in_5 47 rfl rfl, in_1 1 rfl rfl, by decide +kernel, by decide⟩
theorem ca_X12_longer : Cal yX12_longer cX12_longer 5 (some .int) 2 := ⟨in_5 17 rfl rfl, in_1 1 rfl rfl, by decide +kernel, by decide⟩
theorem ca_X12_means : Cal yX12_means cX12_means 2 (some .int) 1 := ⟨in_4 55 rfl rfl, in_1 1 rfl rfl, by decide +kernel, by decide⟩
theorem ca_X12_mend : Cal yX12_mend cX12_mend 2 (some .int) 0 := ⟨in_5 82 rfl rfl, in_1 1 rfl rfl, by decide +kernel, by decide⟩
theorem ca_X12_other : Cal yX12_other cX12_other 6 (some .int) 4 := ⟨in_5 72 rfl rfl, in_1 1 rfl rfl, by decide +kernel, by decide⟩
theorem ca_X12_readings : Cal yX12_readings cX12_readings 2 (some .long) 1 := ⟨in_4 75 rfl rfl, in_1 1 rfl rfl, by decide +kernel, by decide⟩
theorem ca_X12_restore : Cal yX12_restore cX12_restore 2 (some .boolean) 1 := ⟨in_5 191 rfl rfl, in_1 1 rfl rfl, by decide +kernel, by decide⟩
theorem ca_X12_safe : Cal yX12_safe cX12_safe 3 (some .int) 0 := ⟨in_4 145 rfl rfl, in_1 1 rfl rfl, by decide +kernel, by decide⟩
theorem ca_X12_sayable : Cal yX12_sayable cX12_sayable 2 (some .int) 1 := ⟨in_5 30 rfl rfl, in_1 1 rfl rfl, by decide +kernel, by decide⟩
theorem ca_X12_scans : Cal yX12_scans cX12_scans 4 (some .int) 1 := ⟨in_4 155 rfl rfl, in_1 1 rfl rfl, by decide +kernel, by decide⟩
theorem ca_X12_sortAt : Cal yX12_sortAt cX12_sortAt 4 (some .int) 2 := ⟨in_4 96 rfl rfl, in_1 1 rfl rfl, by decide +kernel, by decide⟩
theorem ca_X12_standIn : Cal yX12_standIn cX12_standIn 4 (some .int) 1 := ⟨in_4 137 rfl rfl, in_1 1 rfl rfl, by decide +kernel, by decide⟩
theorem ca_X12_sure : Cal yX12_sure cX12_sure 2 (some .int) 1 := ⟨in_5 162 rfl rfl, in_1 1 rfl rfl, by decide +kernel, by decide⟩
theorem ca_X12_take : Cal yX12_take cX12_take 2 (some .int) 1 := ⟨in_5 174 rfl rfl, in_1 1 rfl rfl, by decide +kernel, by decide⟩
theorem ca_X12_text : Cal yX12_text cX12_text 2 (some .int) 0 := ⟨in_3 222 rfl rfl, in_1 1 rfl rfl, by decide +kernel, by decide⟩
theorem ca_X12_tongue : Cal yX12_tongue cX12_tongue 2 (some .int) 0 := ⟨in_3 8 rfl rfl, in_1 1 rfl rfl, by decide +kernel, by decide⟩
theorem ca_X12_torn : Cal yX12_torn cX12_torn 4 (some .long) 2 := ⟨in_5 95 rfl rfl, in_1 1 rfl rfl, by decide +kernel, by decide⟩
theorem ca_X12_turns : Cal yX12_turns cX12_turns 1 (some .int) 0 := ⟨in_4 114 rfl rfl, in_1 1 rfl rfl, by decide +kernel, by decide⟩
theorem ca_X12_twice : Cal yX12_twice cX12_twice 3 (some .int) 2 := ⟨in_4 133 rfl rfl, in_1 1 rfl rfl, by decide +kernel, by decide⟩
theorem ca_X12_verse : Cal yX12_verse cX12_verse 3 (some .int) 2 := ⟨in_5 13 rfl rfl, in_1 1 rfl rfl, by decide +kernel, by decide⟩
theorem ca_X12_word : Cal yX12_word cX12_word 4 (some .int) 2 := ⟨in_5 203 rfl rfl, in_1 1 rfl rfl, by decide +kernel, by decide⟩
theorem ca_X13_add : Cal yX13_add cX13_add 3 (some .int) 0 := ⟨in_8 150 rfl rfl, in_1 14 rfl rfl, by decide +kernel, by decide⟩
theorem ca_X13_against : Cal yX13_against cX13_against 6 (some .int) 1 := ⟨in_7 225 rfl rfl, in_1 14 rfl rfl, by decide +kernel, by decide⟩
theorem ca_X13_alike : Cal yX13_alike cX13_alike 7 (some .int) 1 := ⟨in_7 130 rfl rfl, in_1 14 rfl rfl, by decide +kernel, by decide⟩
theorem ca_X13_becomes : Cal yX13_becomes cX13_becomes 4 (some .int) 3 := ⟨in_7 126 rfl rfl, in_1 14 rfl rfl, by decide +kernel, by decide⟩
theorem ca_X13_book : Cal yX13_book cX13_book 7 (some .int) 1 := ⟨in_8 158 rfl rfl, in_1 14 rfl rfl, by decide +kernel, by decide⟩
theorem ca_X13_cheapest : Cal yX13_cheapest cX13_cheapest 6 (some .int) 1 := ⟨in_8 67 rfl rfl, in_1 14 rfl rfl, by decide +kernel, by decide⟩
theorem ca_X13_count_ : Cal yX13_count_ cX13_count_ 2 (some .int) 1 := ⟨in_8 170 rfl rfl, in_1 14 rfl rfl, by decide +kernel, by decide⟩
theorem ca_X13_drawn : Cal yX13_drawn cX13_drawn 8 (some .int) 2 := ⟨in_7 150 rfl rfl, in_1 14 rfl rfl, by decide +kernel, by decide⟩
theorem ca_X13_end : Cal yX13_end cX13_end 2 (some .boolean) 1 := ⟨in_6 57 rfl rfl, in_1 14 rfl rfl, by decide +kernel, by decide⟩
theorem ca_X13_fault : Cal yX13_fault cX13_fault 1 (some .int) 0 := ⟨in_7 110 rfl rfl, in_1 14 rfl rfl, by decide +kernel, by decide⟩
theorem ca_X13_feed : Cal yX13_feed cX13_feed 6 (some .int) 5 := ⟨in_6 48 rfl rfl, in_1 14 rfl rfl, by decide +kernel, by decide⟩
theorem ca_X13_find_ : Cal yX13_find_ cX13_find_ 2 (some .int) 1 := ⟨in_8 23 rfl rfl, in_1 14 rfl rfl, by decide +kernel, by decide⟩
theorem ca_X13_foundAt : Cal yX13_foundAt cX13_foundAt 2 (some .int) 1 := ⟨in_8 75 rfl rfl, in_1 14 rfl rfl, by decide +kernel, by decide⟩
theorem ca_X13_image : Cal yX13_image cX13_image 3 (some .boolean) 1 := ⟨in_8 162 rfl rfl, in_1 14 rfl rfl, by decide +kernel, by decide⟩
theorem ca_X13_known : Cal yX13_known cX13_known 6 (some .int) 2 := ⟨in_8 7 rfl rfl, in_1 14 rfl rfl, by decide +kernel, by decide⟩
theorem ca_X13_lay : Cal yX13_lay cX13_lay 2 (some .int) 0 := ⟨in_7 142 rfl rfl, in_1 14 rfl rfl, by decide +kernel, by decide⟩
theorem ca_X13_left : Cal yX13_left cX13_left 2 (some .int) 1 := ⟨in_7 159 rfl rfl, in_1 14 rfl rfl, by decide +kernel, by decide⟩
theorem ca_X13_leftAt : Cal yX13_leftAt cX13_leftAt 3 (some .int) 2 := ⟨in_7 179 rfl rfl, in_1 14 rfl rfl, by decide +kernel, by decide⟩
theorem ca_X13_lend : Cal yX13_lend cX13_lend 8 (some .int) 1 := ⟨in_8 98 rfl rfl, in_1 14 rfl rfl, by decide +kernel, by decide⟩
theorem ca_X13_letters : Cal yX13_letters cX13_letters 9 (some .long) 1 := ⟨in_8 18 rfl rfl, in_1 14 rfl rfl, by decide +kernel, by decide⟩
theorem ca_X13_likeliest : Cal yX13_likeliest cX13_likeliest 2 (some .long) 0 := ⟨in_8 146 rfl rfl, in_1 14 rfl rfl, by decide +kernel, by decide⟩
theorem ca_X13_link : Cal yX13_link cX13_link 7 (some .int) 1 := ⟨in_8 91 rfl rfl, in_1 14 rfl rfl, by decide +kernel, by decide⟩
theorem ca_X13_longer : Cal yX13_longer cX13_longer 5 (some .int) 2 := ⟨in_8 71 rfl rfl, in_1 14 rfl rfl, by decide +kernel, by decide⟩
theorem ca_X13_means : Cal yX13_means cX13_means 2 (some .int) 1 := ⟨in_7 183 rfl rfl, in_1 14 rfl rfl, by decide +kernel, by decide⟩
theorem ca_X13_mend : Cal yX13_mend cX13_mend 2 (some .int) 0 := ⟨in_8 102 rfl rfl, in_1 14 rfl rfl, by decide +kernel, by decide⟩
theorem ca_X13_other : Cal yX13_other cX13_other 6 (some .int) 4 := ⟨in_8 79 rfl rfl, in_1 14 rfl rfl, by decide +kernel, by decide⟩
theorem ca_X13_readings : Cal yX13_readings cX13_readings 5 (some .long) 1 := ⟨in_7 209 rfl rfl, in_1 14 rfl rfl, by decide +kernel, by decide⟩
theorem ca_X13_restore : Cal yX13_restore cX13_restore 3 (some .boolean) 1 := ⟨in_8 166 rfl rfl, in_1 14 rfl rfl, by decide +kernel, by decide⟩
theorem ca_X13_safe : Cal yX13_safe cX13_safe 3 (some .int) 0 := ⟨in_8 0 rfl rfl, in_1 14 rfl rfl, by decide +kernel, by decide⟩
theorem ca_X13_sayable : Cal yX13_sayable cX13_sayable 2 (some .int) 1 := ⟨in_8 83 rfl rfl, in_1 14 rfl rfl, by decide +kernel, by decide⟩
theorem ca_X13_scans : Cal yX13_scans cX13_scans 6 (some .int) 1 := ⟨in_8 14 rfl rfl, in_1 14 rfl rfl, by decide +kernel, by decide⟩
theorem ca_X13_sortAt : Cal yX13_sortAt cX13_sortAt 7 (some .int) 2 := ⟨in_7 217 rfl rfl, in_1 14 rfl rfl, by decide +kernel, by decide⟩
theorem ca_X13_standIn : Cal yX13_standIn cX13_standIn 7 (some .int) 1 := ⟨in_7 236 rfl rfl, in_1 14 rfl rfl, by decide +kernel, by decide⟩
theorem ca_X13_sure : Cal yX13_sure cX13_sure 2 (some .int) 1 := ⟨in_8 142 rfl rfl, in_1 14 rfl rfl, by decide +kernel, by decide⟩
theorem ca_X13_take : Cal yX13_take cX13_take 3 (some .int) 1 := ⟨in_8 154 rfl rfl, in_1 14 rfl rfl, by decide +kernel, by decide⟩
theorem ca_X13_text : Cal yX13_text cX13_text 3 (some .int) 0 := ⟨in_7 134 rfl rfl, in_1 14 rfl rfl, by decide +kernel, by decide⟩
theorem ca_X13_thrown : Cal yX13_thrown cX13_thrown 1 (some .int) 0 := ⟨in_6 44 rfl rfl, in_1 14 rfl rfl, by decide +kernel, by decide⟩
theorem ca_X13_tongue : Cal yX13_tongue cX13_tongue 2 (some .int) 0 := ⟨in_7 18 rfl rfl, in_1 14 rfl rfl, by decide +kernel, by decide⟩
theorem ca_X13_torn : Cal yX13_torn cX13_torn 6 (some .long) 2 := ⟨in_8 114 rfl rfl, in_1 14 rfl rfl, by decide +kernel, by decide⟩
theorem ca_X13_turns : Cal yX13_turns cX13_turns 4 (some .int) 0 := ⟨in_7 221 rfl rfl, in_1 14 rfl rfl, by decide +kernel, by decide⟩
theorem ca_X13_twice : Cal yX13_twice cX13_twice 4 (some .int) 2 := ⟨in_7 232 rfl rfl, in_1 14 rfl rfl, by decide +kernel, by decide⟩
theorem ca_X13_verse : Cal yX13_verse cX13_verse 3 (some .int) 2 := ⟨in_8 63 rfl rfl, in_1 14 rfl rfl, by decide +kernel, by decide⟩
theorem ca_X13_word : Cal yX13_word cX13_word 5 (some .int) 2 := ⟨in_7 114 rfl rfl, in_1 14 rfl rfl, by decide +kernel, by decide⟩
theorem ci_X12_add : Cond.instanceMethod yX12_add ∈ tbl := in_5 168 rfl rfl
theorem ci_X12_against : Cond.instanceMethod yX12_against ∈ tbl := in_4 121 rfl rfl
theorem ci_X12_alike : Cond.instanceMethod yX12_alike ∈ tbl := in_4 3 rfl rfl
theorem ci_X12_becomes : Cond.instanceMethod yX12_becomes ∈ tbl := in_3 200 rfl rfl
theorem ci_X12_book : Cond.instanceMethod yX12_book ∈ tbl := in_5 176 rfl rfl
theorem ci_X12_cheapest : Cond.instanceMethod yX12_cheapest ∈ tbl := in_4 238 rfl rfl
theorem ci_X12_count : Cond.instanceMethod yX12_count ∈ tbl := in_5 193 rfl rfl
theorem ci_X12_drawn : Cond.instanceMethod yX12_drawn ∈ tbl := in_4 11 rfl rfl
theorem ci_X12_end : Cond.instanceMethod yX12_end ∈ tbl := in_3 2 rfl rfl
theorem ci_X12_fault : Cond.instanceMethod yX12_fault ∈ tbl := in_3 196 rfl rfl
theorem ci_X12_feed : Cond.instanceMethod yX12_feed ∈ tbl := in_2 230 rfl rfl
theorem ci_X12_find : Cond.instanceMethod yX12_find ∈ tbl := in_4 184 rfl rfl
theorem ci_X12_foundAt : Cond.instanceMethod yX12_foundAt ∈ tbl := in_5 24 rfl rfl
theorem ci_X12_image : Cond.instanceMethod yX12_image ∈ tbl := in_5 180 rfl rfl
theorem ci_X12_known : Cond.instanceMethod yX12_known ∈ tbl := in_6 34 rfl rfl
theorem ci_X12_lay : Cond.instanceMethod yX12_lay ∈ tbl := in_3 235 rfl rfl
theorem ci_X12_left : Cond.instanceMethod yX12_left ∈ tbl := in_4 24 rfl rfl
theorem ci_X12_leftAt : Cond.instanceMethod yX12_leftAt ∈ tbl := in_4 45 rfl rfl
theorem ci_X12_lend : Cond.instanceMethod yX12_lend ∈ tbl := in_5 66 rfl rfl
theorem ci_X12_letters : Cond.instanceMethod yX12_letters ∈ tbl := in_4 161 rfl rfl
theorem ci_X12_likeliest : Cond.instanceMethod yX12_likeliest ∈ tbl := in_5 164 rfl rfl
theorem ci_X12_link : Cond.instanceMethod yX12_link ∈ tbl := in_5 45 rfl rfl
theorem ci_X12_longer : Cond.instanceMethod yX12_longer ∈ tbl := in_5 15 rfl rfl
theorem ci_X12_means : Cond.instanceMethod yX12_means ∈ tbl := in_4 53 rfl rfl
theorem ci_X12_mend : Cond.instanceMethod yX12_mend ∈ tbl := in_5 80 rfl rfl
theorem ci_X12_other : Cond.instanceMethod yX12_other ∈ tbl := in_5 70 rfl rfl
theorem ci_X12_readings : Cond.instanceMethod yX12_readings ∈ tbl := in_4 73 rfl rfl
theorem ci_X12_restore : Cond.instanceMethod yX12_restore ∈ tbl := in_5 189 rfl rfl
theorem ci_X12_safe : Cond.instanceMethod yX12_safe ∈ tbl := in_4 143 rfl rfl
theorem ci_X12_sayable : Cond.instanceMethod yX12_sayable ∈ tbl := in_5 28 rfl rfl
theorem ci_X12_scans : Cond.instanceMethod yX12_scans ∈ tbl := in_4 153 rfl rfl
theorem ci_X12_sortAt : Cond.instanceMethod yX12_sortAt ∈ tbl := in_4 94 rfl rfl
theorem ci_X12_standIn : Cond.instanceMethod yX12_standIn ∈ tbl := in_4 135 rfl rfl
theorem ci_X12_sure : Cond.instanceMethod yX12_sure ∈ tbl := in_5 160 rfl rfl
theorem ci_X12_take : Cond.instanceMethod yX12_take ∈ tbl := in_5 172 rfl rfl
theorem ci_X12_text : Cond.instanceMethod yX12_text ∈ tbl := in_3 220 rfl rfl
theorem ci_X12_tongue : Cond.instanceMethod yX12_tongue ∈ tbl := in_3 6 rfl rfl
theorem ci_X12_torn : Cond.instanceMethod yX12_torn ∈ tbl := in_5 93 rfl rfl
theorem ci_X12_turns : Cond.instanceMethod yX12_turns ∈ tbl := in_4 112 rfl rfl
theorem ci_X12_twice : Cond.instanceMethod yX12_twice ∈ tbl := in_4 131 rfl rfl
theorem ci_X12_verse : Cond.instanceMethod yX12_verse ∈ tbl := in_5 11 rfl rfl
theorem ci_X12_word : Cond.instanceMethod yX12_word ∈ tbl := in_5 201 rfl rfl
theorem ci_X13_add : Cond.instanceMethod yX13_add ∈ tbl := in_8 148 rfl rfl
theorem ci_X13_against : Cond.instanceMethod yX13_against ∈ tbl := in_7 223 rfl rfl
theorem ci_X13_alike : Cond.instanceMethod yX13_alike ∈ tbl := in_7 128 rfl rfl
theorem ci_X13_becomes : Cond.instanceMethod yX13_becomes ∈ tbl := in_7 124 rfl rfl
theorem ci_X13_book : Cond.instanceMethod yX13_book ∈ tbl := in_8 156 rfl rfl
theorem ci_X13_cheapest : Cond.instanceMethod yX13_cheapest ∈ tbl := in_8 65 rfl rfl
theorem ci_X13_count_ : Cond.instanceMethod yX13_count_ ∈ tbl := in_8 168 rfl rfl
theorem ci_X13_drawn : Cond.instanceMethod yX13_drawn ∈ tbl := in_7 148 rfl rfl
theorem ci_X13_end : Cond.instanceMethod yX13_end ∈ tbl := in_6 55 rfl rfl
theorem ci_X13_fault : Cond.instanceMethod yX13_fault ∈ tbl := in_7 108 rfl rfl
theorem ci_X13_feed : Cond.instanceMethod yX13_feed ∈ tbl := in_6 46 rfl rfl
theorem ci_X13_find_ : Cond.instanceMethod yX13_find_ ∈ tbl := in_8 21 rfl rfl
theorem ci_X13_foundAt : Cond.instanceMethod yX13_foundAt ∈ tbl := in_8 73 rfl rfl
theorem ci_X13_image : Cond.instanceMethod yX13_image ∈ tbl := in_8 160 rfl rfl
theorem ci_X13_known : Cond.instanceMethod yX13_known ∈ tbl := in_8 5 rfl rfl
theorem ci_X13_lay : Cond.instanceMethod yX13_lay ∈ tbl := in_7 140 rfl rfl
theorem ci_X13_left : Cond.instanceMethod yX13_left ∈ tbl := in_7 157 rfl rfl
theorem ci_X13_leftAt : Cond.instanceMethod yX13_leftAt ∈ tbl := in_7 177 rfl rfl
theorem ci_X13_lend : Cond.instanceMethod yX13_lend ∈ tbl := in_8 96 rfl rfl
theorem ci_X13_letters : Cond.instanceMethod yX13_letters ∈ tbl := in_8 16 rfl rfl
theorem ci_X13_likeliest : Cond.instanceMethod yX13_likeliest ∈ tbl := in_8 144 rfl rfl
theorem ci_X13_link : Cond.instanceMethod yX13_link ∈ tbl := in_8 89 rfl rfl
theorem ci_X13_longer : Cond.instanceMethod yX13_longer ∈ tbl := in_8 69 rfl rfl
theorem ci_X13_means : Cond.instanceMethod yX13_means ∈ tbl := in_7 181 rfl rfl
theorem ci_X13_mend : Cond.instanceMethod yX13_mend ∈ tbl := in_8 100 rfl rfl
theorem ci_X13_other : Cond.instanceMethod yX13_other ∈ tbl := in_8 77 rfl rfl
theorem ci_X13_readings : Cond.instanceMethod yX13_readings ∈ tbl := in_7 207 rfl rfl
theorem ci_X13_restore : Cond.instanceMethod yX13_restore ∈ tbl := in_8 164 rfl rfl
theorem ci_X13_safe : Cond.instanceMethod yX13_safe ∈ tbl := in_7 238 rfl rfl
theorem ci_X13_sayable : Cond.instanceMethod yX13_sayable ∈ tbl := in_8 81 rfl rfl
theorem ci_X13_scans : Cond.instanceMethod yX13_scans ∈ tbl := in_8 12 rfl rfl
theorem ci_X13_sortAt : Cond.instanceMethod yX13_sortAt ∈ tbl := in_7 215 rfl rfl
theorem ci_X13_standIn : Cond.instanceMethod yX13_standIn ∈ tbl := in_7 234 rfl rfl
theorem ci_X13_sure : Cond.instanceMethod yX13_sure ∈ tbl := in_8 140 rfl rfl
theorem ci_X13_take : Cond.instanceMethod yX13_take ∈ tbl := in_8 152 rfl rfl
theorem ci_X13_text : Cond.instanceMethod yX13_text ∈ tbl := in_7 132 rfl rfl
theorem ci_X13_thrown : Cond.instanceMethod yX13_thrown ∈ tbl := in_6 42 rfl rfl
theorem ci_X13_tongue : Cond.instanceMethod yX13_tongue ∈ tbl := in_7 16 rfl rfl
theorem ci_X13_torn : Cond.instanceMethod yX13_torn ∈ tbl := in_8 112 rfl rfl
theorem ci_X13_turns : Cond.instanceMethod yX13_turns ∈ tbl := in_7 219 rfl rfl
theorem ci_X13_twice : Cond.instanceMethod yX13_twice ∈ tbl := in_7 230 rfl rfl
theorem ci_X13_verse : Cond.instanceMethod yX13_verse ∈ tbl := in_8 61 rfl rfl
theorem ci_X13_word : Cond.instanceMethod yX13_word ∈ tbl := in_7 112 rfl rfl
theorem cs_X12_add : Cond.selects yX12_add.cls yX12_add yX12_add ∈ tbl := in_5 169 rfl rfl
theorem cs_X12_against : Cond.selects yX12_against.cls yX12_against yX12_against ∈ tbl := in_4 122 rfl rfl
theorem cs_X12_alike : Cond.selects yX12_alike.cls yX12_alike yX12_alike ∈ tbl := in_4 4 rfl rfl
theorem cs_X12_becomes : Cond.selects yX12_becomes.cls yX12_becomes yX12_becomes ∈ tbl := in_3 201 rfl rfl
theorem cs_X12_book : Cond.selects yX12_book.cls yX12_book yX12_book ∈ tbl := in_5 177 rfl rfl
theorem cs_X12_cheapest : Cond.selects yX12_cheapest.cls yX12_cheapest yX12_cheapest ∈ tbl := in_4 239 rfl rfl
theorem cs_X12_count : Cond.selects yX12_count.cls yX12_count yX12_count ∈ tbl := in_5 194 rfl rfl
theorem cs_X12_drawn : Cond.selects yX12_drawn.cls yX12_drawn yX12_drawn ∈ tbl := in_4 12 rfl rfl
theorem cs_X12_end : Cond.selects yX12_end.cls yX12_end yX12_end ∈ tbl := in_3 3 rfl rfl
theorem cs_X12_fault : Cond.selects yX12_fault.cls yX12_fault yX12_fault ∈ tbl := in_3 197 rfl rfl
theorem cs_X12_feed : Cond.selects yX12_feed.cls yX12_feed yX12_feed ∈ tbl := in_2 231 rfl rfl
theorem cs_X12_find : Cond.selects yX12_find.cls yX12_find yX12_find ∈ tbl := in_4 185 rfl rfl
theorem cs_X12_foundAt : Cond.selects yX12_foundAt.cls yX12_foundAt yX12_foundAt ∈ tbl := in_5 25 rfl rfl
theorem cs_X12_image : Cond.selects yX12_image.cls yX12_image yX12_image ∈ tbl := in_5 181 rfl rfl
theorem cs_X12_known : Cond.selects yX12_known.cls yX12_known yX12_known ∈ tbl := in_6 35 rfl rfl
theorem cs_X12_lay : Cond.selects yX12_lay.cls yX12_lay yX12_lay ∈ tbl := in_3 236 rfl rfl
theorem cs_X12_left : Cond.selects yX12_left.cls yX12_left yX12_left ∈ tbl := in_4 25 rfl rfl
theorem cs_X12_leftAt : Cond.selects yX12_leftAt.cls yX12_leftAt yX12_leftAt ∈ tbl := in_4 46 rfl rfl
theorem cs_X12_lend : Cond.selects yX12_lend.cls yX12_lend yX12_lend ∈ tbl := in_5 67 rfl rfl
theorem cs_X12_letters : Cond.selects yX12_letters.cls yX12_letters yX12_letters ∈ tbl := in_4 162 rfl rfl
theorem cs_X12_likeliest : Cond.selects yX12_likeliest.cls yX12_likeliest yX12_likeliest ∈ tbl := in_5 165 rfl rfl
theorem cs_X12_link : Cond.selects yX12_link.cls yX12_link yX12_link ∈ tbl := in_5 46 rfl rfl
theorem cs_X12_longer : Cond.selects yX12_longer.cls yX12_longer yX12_longer ∈ tbl := in_5 16 rfl rfl
theorem cs_X12_means : Cond.selects yX12_means.cls yX12_means yX12_means ∈ tbl := in_4 54 rfl rfl
theorem cs_X12_mend : Cond.selects yX12_mend.cls yX12_mend yX12_mend ∈ tbl := in_5 81 rfl rfl
theorem cs_X12_other : Cond.selects yX12_other.cls yX12_other yX12_other ∈ tbl := in_5 71 rfl rfl
theorem cs_X12_readings : Cond.selects yX12_readings.cls yX12_readings yX12_readings ∈ tbl := in_4 74 rfl rfl
theorem cs_X12_restore : Cond.selects yX12_restore.cls yX12_restore yX12_restore ∈ tbl := in_5 190 rfl rfl
theorem cs_X12_safe : Cond.selects yX12_safe.cls yX12_safe yX12_safe ∈ tbl := in_4 144 rfl rfl
theorem cs_X12_sayable : Cond.selects yX12_sayable.cls yX12_sayable yX12_sayable ∈ tbl := in_5 29 rfl rfl
theorem cs_X12_scans : Cond.selects yX12_scans.cls yX12_scans yX12_scans ∈ tbl := in_4 154 rfl rfl
theorem cs_X12_sortAt : Cond.selects yX12_sortAt.cls yX12_sortAt yX12_sortAt ∈ tbl := in_4 95 rfl rfl
theorem cs_X12_standIn : Cond.selects yX12_standIn.cls yX12_standIn yX12_standIn ∈ tbl := in_4 136 rfl rfl
theorem cs_X12_sure : Cond.selects yX12_sure.cls yX12_sure yX12_sure ∈ tbl := in_5 161 rfl rfl
theorem cs_X12_take : Cond.selects yX12_take.cls yX12_take yX12_take ∈ tbl := in_5 173 rfl rfl
theorem cs_X12_text : Cond.selects yX12_text.cls yX12_text yX12_text ∈ tbl := in_3 221 rfl rfl
theorem cs_X12_tongue : Cond.selects yX12_tongue.cls yX12_tongue yX12_tongue ∈ tbl := in_3 7 rfl rfl
theorem cs_X12_torn : Cond.selects yX12_torn.cls yX12_torn yX12_torn ∈ tbl := in_5 94 rfl rfl
theorem cs_X12_turns : Cond.selects yX12_turns.cls yX12_turns yX12_turns ∈ tbl := in_4 113 rfl rfl
theorem cs_X12_twice : Cond.selects yX12_twice.cls yX12_twice yX12_twice ∈ tbl := in_4 132 rfl rfl
theorem cs_X12_verse : Cond.selects yX12_verse.cls yX12_verse yX12_verse ∈ tbl := in_5 12 rfl rfl
theorem cs_X12_word : Cond.selects yX12_word.cls yX12_word yX12_word ∈ tbl := in_5 202 rfl rfl
theorem cs_X13_add : Cond.selects yX13_add.cls yX13_add yX13_add ∈ tbl := in_8 149 rfl rfl
theorem cs_X13_against : Cond.selects yX13_against.cls yX13_against yX13_against ∈ tbl := in_7 224 rfl rfl
theorem cs_X13_alike : Cond.selects yX13_alike.cls yX13_alike yX13_alike ∈ tbl := in_7 129 rfl rfl
theorem cs_X13_becomes : Cond.selects yX13_becomes.cls yX13_becomes yX13_becomes ∈ tbl := in_7 125 rfl rfl
theorem cs_X13_book : Cond.selects yX13_book.cls yX13_book yX13_book ∈ tbl := in_8 157 rfl rfl
theorem cs_X13_cheapest : Cond.selects yX13_cheapest.cls yX13_cheapest yX13_cheapest ∈ tbl := in_8 66 rfl rfl
theorem cs_X13_count_ : Cond.selects yX13_count_.cls yX13_count_ yX13_count_ ∈ tbl := in_8 169 rfl rfl
theorem cs_X13_drawn : Cond.selects yX13_drawn.cls yX13_drawn yX13_drawn ∈ tbl := in_7 149 rfl rfl
theorem cs_X13_end : Cond.selects yX13_end.cls yX13_end yX13_end ∈ tbl := in_6 56 rfl rfl
theorem cs_X13_fault : Cond.selects yX13_fault.cls yX13_fault yX13_fault ∈ tbl := in_7 109 rfl rfl
theorem cs_X13_feed : Cond.selects yX13_feed.cls yX13_feed yX13_feed ∈ tbl := in_6 47 rfl rfl
theorem cs_X13_find_ : Cond.selects yX13_find_.cls yX13_find_ yX13_find_ ∈ tbl := in_8 22 rfl rfl
theorem cs_X13_foundAt : Cond.selects yX13_foundAt.cls yX13_foundAt yX13_foundAt ∈ tbl := in_8 74 rfl rfl
theorem cs_X13_image : Cond.selects yX13_image.cls yX13_image yX13_image ∈ tbl := in_8 161 rfl rfl
theorem cs_X13_known : Cond.selects yX13_known.cls yX13_known yX13_known ∈ tbl := in_8 6 rfl rfl
theorem cs_X13_lay : Cond.selects yX13_lay.cls yX13_lay yX13_lay ∈ tbl := in_7 141 rfl rfl
theorem cs_X13_left : Cond.selects yX13_left.cls yX13_left yX13_left ∈ tbl := in_7 158 rfl rfl
theorem cs_X13_leftAt : Cond.selects yX13_leftAt.cls yX13_leftAt yX13_leftAt ∈ tbl := in_7 178 rfl rfl
theorem cs_X13_lend : Cond.selects yX13_lend.cls yX13_lend yX13_lend ∈ tbl := in_8 97 rfl rfl
theorem cs_X13_letters : Cond.selects yX13_letters.cls yX13_letters yX13_letters ∈ tbl := in_8 17 rfl rfl
theorem cs_X13_likeliest : Cond.selects yX13_likeliest.cls yX13_likeliest yX13_likeliest ∈ tbl := in_8 145 rfl rfl
theorem cs_X13_link : Cond.selects yX13_link.cls yX13_link yX13_link ∈ tbl := in_8 90 rfl rfl
theorem cs_X13_longer : Cond.selects yX13_longer.cls yX13_longer yX13_longer ∈ tbl := in_8 70 rfl rfl
theorem cs_X13_means : Cond.selects yX13_means.cls yX13_means yX13_means ∈ tbl := in_7 182 rfl rfl
theorem cs_X13_mend : Cond.selects yX13_mend.cls yX13_mend yX13_mend ∈ tbl := in_8 101 rfl rfl
theorem cs_X13_other : Cond.selects yX13_other.cls yX13_other yX13_other ∈ tbl := in_8 78 rfl rfl
theorem cs_X13_readings : Cond.selects yX13_readings.cls yX13_readings yX13_readings ∈ tbl := in_7 208 rfl rfl
theorem cs_X13_restore : Cond.selects yX13_restore.cls yX13_restore yX13_restore ∈ tbl := in_8 165 rfl rfl
theorem cs_X13_safe : Cond.selects yX13_safe.cls yX13_safe yX13_safe ∈ tbl := in_7 239 rfl rfl
theorem cs_X13_sayable : Cond.selects yX13_sayable.cls yX13_sayable yX13_sayable ∈ tbl := in_8 82 rfl rfl
theorem cs_X13_scans : Cond.selects yX13_scans.cls yX13_scans yX13_scans ∈ tbl := in_8 13 rfl rfl
theorem cs_X13_sortAt : Cond.selects yX13_sortAt.cls yX13_sortAt yX13_sortAt ∈ tbl := in_7 216 rfl rfl
theorem cs_X13_standIn : Cond.selects yX13_standIn.cls yX13_standIn yX13_standIn ∈ tbl := in_7 235 rfl rfl
theorem cs_X13_sure : Cond.selects yX13_sure.cls yX13_sure yX13_sure ∈ tbl := in_8 141 rfl rfl
theorem cs_X13_take : Cond.selects yX13_take.cls yX13_take yX13_take ∈ tbl := in_8 153 rfl rfl
theorem cs_X13_text : Cond.selects yX13_text.cls yX13_text yX13_text ∈ tbl := in_7 133 rfl rfl
theorem cs_X13_thrown : Cond.selects yX13_thrown.cls yX13_thrown yX13_thrown ∈ tbl := in_6 43 rfl rfl
theorem cs_X13_tongue : Cond.selects yX13_tongue.cls yX13_tongue yX13_tongue ∈ tbl := in_7 17 rfl rfl
theorem cs_X13_torn : Cond.selects yX13_torn.cls yX13_torn yX13_torn ∈ tbl := in_8 113 rfl rfl
theorem cs_X13_turns : Cond.selects yX13_turns.cls yX13_turns yX13_turns ∈ tbl := in_7 220 rfl rfl
theorem cs_X13_twice : Cond.selects yX13_twice.cls yX13_twice yX13_twice ∈ tbl := in_7 231 rfl rfl
theorem cs_X13_verse : Cond.selects yX13_verse.cls yX13_verse yX13_verse ∈ tbl := in_8 62 rfl rfl
theorem cs_X13_word : Cond.selects yX13_word.cls yX13_word yX13_word ∈ tbl := in_7 113 rfl rfl
theorem ml_L_100 : Cond.methodLink "StruckWordsLaw" 100 yX13_against ∈ tbl := in_7 222 rfl rfl
theorem ml_L_101 : Cond.methodLink "StruckWordsLaw" 101 yX12_twice ∈ tbl := in_4 130 rfl rfl
theorem ml_L_104 : Cond.methodLink "StruckWordsLaw" 104 yX13_twice ∈ tbl := in_7 229 rfl rfl
theorem ml_L_105 : Cond.methodLink "StruckWordsLaw" 105 yX12_standIn ∈ tbl := in_4 134 rfl rfl
theorem ml_L_108 : Cond.methodLink "StruckWordsLaw" 108 yX13_standIn ∈ tbl := in_7 233 rfl rfl
theorem ml_L_109 : Cond.methodLink "StruckWordsLaw" 109 yX12_safe ∈ tbl := in_4 142 rfl rfl
theorem ml_L_112 : Cond.methodLink "StruckWordsLaw" 112 yX13_safe ∈ tbl := in_7 237 rfl rfl
theorem ml_L_115 : Cond.methodLink "StruckWordsLaw" 115 yX13_known ∈ tbl := in_8 4 rfl rfl
theorem ml_L_116 : Cond.methodLink "StruckWordsLaw" 116 yX12_scans ∈ tbl := in_4 152 rfl rfl
theorem ml_L_119 : Cond.methodLink "StruckWordsLaw" 119 yX13_scans ∈ tbl := in_8 11 rfl rfl
theorem ml_L_120 : Cond.methodLink "StruckWordsLaw" 120 yX12_letters ∈ tbl := in_4 160 rfl rfl
theorem ml_L_123 : Cond.methodLink "StruckWordsLaw" 123 yX13_letters ∈ tbl := in_8 15 rfl rfl
theorem ml_L_124 : Cond.methodLink "StruckWordsLaw" 124 yX12_find ∈ tbl := in_4 183 rfl rfl
theorem ml_L_127 : Cond.methodLink "StruckWordsLaw" 127 yX13_find_ ∈ tbl := in_8 20 rfl rfl
theorem ml_L_128 : Cond.methodLink "StruckWordsLaw" 128 yX12_cheapest ∈ tbl := in_4 237 rfl rfl
theorem ml_L_131 : Cond.methodLink "StruckWordsLaw" 131 yX13_cheapest ∈ tbl := in_8 64 rfl rfl
theorem ml_L_132 : Cond.methodLink "StruckWordsLaw" 132 yX12_verse ∈ tbl := in_5 10 rfl rfl
theorem ml_L_135 : Cond.methodLink "StruckWordsLaw" 135 yX13_verse ∈ tbl := in_8 60 rfl rfl
theorem ml_L_136 : Cond.methodLink "StruckWordsLaw" 136 yX12_longer ∈ tbl := in_5 14 rfl rfl
theorem ml_L_139 : Cond.methodLink "StruckWordsLaw" 139 yX13_longer ∈ tbl := in_8 68 rfl rfl
theorem ml_L_140 : Cond.methodLink "StruckWordsLaw" 140 yX12_foundAt ∈ tbl := in_5 23 rfl rfl
theorem ml_L_143 : Cond.methodLink "StruckWordsLaw" 143 yX13_foundAt ∈ tbl := in_8 72 rfl rfl
theorem ml_L_144 : Cond.methodLink "StruckWordsLaw" 144 yX12_sayable ∈ tbl := in_5 27 rfl rfl
theorem ml_L_147 : Cond.methodLink "StruckWordsLaw" 147 yX13_sayable ∈ tbl := in_8 80 rfl rfl
theorem ml_L_148 : Cond.methodLink "StruckWordsLaw" 148 yX12_link ∈ tbl := in_5 44 rfl rfl
theorem ml_L_15 : Cond.methodLink "StruckWordsLaw" 15 yX12_known ∈ tbl := in_6 33 rfl rfl
theorem ml_L_151 : Cond.methodLink "StruckWordsLaw" 151 yX13_link ∈ tbl := in_8 88 rfl rfl
theorem ml_L_152 : Cond.methodLink "StruckWordsLaw" 152 yX12_lend ∈ tbl := in_5 65 rfl rfl
theorem ml_L_155 : Cond.methodLink "StruckWordsLaw" 155 yX13_lend ∈ tbl := in_8 95 rfl rfl
theorem ml_L_156 : Cond.methodLink "StruckWordsLaw" 156 yX12_other ∈ tbl := in_5 69 rfl rfl
theorem ml_L_160 : Cond.methodLink "StruckWordsLaw" 160 yX13_other ∈ tbl := in_8 76 rfl rfl
theorem ml_L_161 : Cond.methodLink "StruckWordsLaw" 161 yX12_mend ∈ tbl := in_5 79 rfl rfl
theorem ml_L_164 : Cond.methodLink "StruckWordsLaw" 164 yX13_mend ∈ tbl := in_8 99 rfl rfl
theorem ml_L_165 : Cond.methodLink "StruckWordsLaw" 165 yX12_torn ∈ tbl := in_5 92 rfl rfl
theorem ml_L_169 : Cond.methodLink "StruckWordsLaw" 169 yX13_torn ∈ tbl := in_8 111 rfl rfl
theorem ml_L_170 : Cond.methodLink "StruckWordsLaw" 170 yX12_sure ∈ tbl := in_5 159 rfl rfl
theorem ml_L_173 : Cond.methodLink "StruckWordsLaw" 173 yX13_sure ∈ tbl := in_8 139 rfl rfl
theorem ml_L_174 : Cond.methodLink "StruckWordsLaw" 174 yX12_likeliest ∈ tbl := in_5 163 rfl rfl
theorem ml_L_178 : Cond.methodLink "StruckWordsLaw" 178 yX13_likeliest ∈ tbl := in_8 143 rfl rfl
theorem ml_L_179 : Cond.methodLink "StruckWordsLaw" 179 yX12_add ∈ tbl := in_5 167 rfl rfl
theorem ml_L_182 : Cond.methodLink "StruckWordsLaw" 182 yX13_add ∈ tbl := in_8 147 rfl rfl
theorem ml_L_183 : Cond.methodLink "StruckWordsLaw" 183 yX12_take ∈ tbl := in_5 171 rfl rfl
theorem ml_L_186 : Cond.methodLink "StruckWordsLaw" 186 yX13_take ∈ tbl := in_8 151 rfl rfl
theorem ml_L_187 : Cond.methodLink "StruckWordsLaw" 187 yX12_book ∈ tbl := in_5 175 rfl rfl
theorem ml_L_190 : Cond.methodLink "StruckWordsLaw" 190 yX13_book ∈ tbl := in_8 155 rfl rfl
theorem ml_L_191 : Cond.methodLink "StruckWordsLaw" 191 yX12_image ∈ tbl := in_5 179 rfl rfl
theorem ml_L_194 : Cond.methodLink "StruckWordsLaw" 194 yX13_image ∈ tbl := in_8 159 rfl rfl
theorem ml_L_195 : Cond.methodLink "StruckWordsLaw" 195 yX12_restore ∈ tbl := in_5 188 rfl rfl
theorem ml_L_198 : Cond.methodLink "StruckWordsLaw" 198 yX13_restore ∈ tbl := in_8 163 rfl rfl
theorem ml_L_199 : Cond.methodLink "StruckWordsLaw" 199 yX12_count ∈ tbl := in_5 192 rfl rfl
theorem ml_L_202 : Cond.methodLink "StruckWordsLaw" 202 yX13_count_ ∈ tbl := in_8 167 rfl rfl
theorem ml_L_22 : Cond.methodLink "StruckWordsLaw" 22 yX12_feed ∈ tbl := in_2 229 rfl rfl
theorem ml_L_26 : Cond.methodLink "StruckWordsLaw" 26 yX13_feed ∈ tbl := in_6 45 rfl rfl
theorem ml_L_27 : Cond.methodLink "StruckWordsLaw" 27 yX12_end ∈ tbl := in_3 1 rfl rfl
theorem ml_L_31 : Cond.methodLink "StruckWordsLaw" 31 yX13_end ∈ tbl := in_6 54 rfl rfl
theorem ml_L_32 : Cond.methodLink "StruckWordsLaw" 32 yX12_tongue ∈ tbl := in_3 5 rfl rfl
theorem ml_L_36 : Cond.methodLink "StruckWordsLaw" 36 yX13_tongue ∈ tbl := in_7 15 rfl rfl
theorem ml_L_37 : Cond.methodLink "StruckWordsLaw" 37 yX12_fault ∈ tbl := in_3 195 rfl rfl
theorem ml_L_40 : Cond.methodLink "StruckWordsLaw" 40 yX13_fault ∈ tbl := in_7 107 rfl rfl
theorem ml_L_46 : Cond.methodLink "StruckWordsLaw" 46 yX13_word ∈ tbl := in_7 111 rfl rfl
theorem ml_L_47 : Cond.methodLink "StruckWordsLaw" 47 yX13_thrown ∈ tbl := in_6 41 rfl rfl
theorem ml_L_50 : Cond.methodLink "StruckWordsLaw" 50 yX12_becomes ∈ tbl := in_3 199 rfl rfl
theorem ml_L_54 : Cond.methodLink "StruckWordsLaw" 54 yX13_becomes ∈ tbl := in_7 123 rfl rfl
theorem ml_L_55 : Cond.methodLink "StruckWordsLaw" 55 yX12_text ∈ tbl := in_3 219 rfl rfl
theorem ml_L_58 : Cond.methodLink "StruckWordsLaw" 58 yX13_text ∈ tbl := in_7 131 rfl rfl
theorem ml_L_59 : Cond.methodLink "StruckWordsLaw" 59 yX12_lay ∈ tbl := in_3 234 rfl rfl
theorem ml_L_62 : Cond.methodLink "StruckWordsLaw" 62 yX13_lay ∈ tbl := in_7 139 rfl rfl
theorem ml_L_63 : Cond.methodLink "StruckWordsLaw" 63 yX12_alike ∈ tbl := in_4 2 rfl rfl
theorem ml_L_67 : Cond.methodLink "StruckWordsLaw" 67 yX13_alike ∈ tbl := in_7 127 rfl rfl
theorem ml_L_68 : Cond.methodLink "StruckWordsLaw" 68 yX12_drawn ∈ tbl := in_4 10 rfl rfl
theorem ml_L_7 : Cond.methodLink "StruckWordsLaw" 7 yX12_word ∈ tbl := in_5 200 rfl rfl
theorem ml_L_71 : Cond.methodLink "StruckWordsLaw" 71 yX13_drawn ∈ tbl := in_7 147 rfl rfl
theorem ml_L_72 : Cond.methodLink "StruckWordsLaw" 72 yX12_left ∈ tbl := in_4 23 rfl rfl
theorem ml_L_75 : Cond.methodLink "StruckWordsLaw" 75 yX13_left ∈ tbl := in_7 156 rfl rfl
theorem ml_L_76 : Cond.methodLink "StruckWordsLaw" 76 yX12_leftAt ∈ tbl := in_4 44 rfl rfl
theorem ml_L_79 : Cond.methodLink "StruckWordsLaw" 79 yX13_leftAt ∈ tbl := in_7 176 rfl rfl
theorem ml_L_80 : Cond.methodLink "StruckWordsLaw" 80 yX12_means ∈ tbl := in_4 52 rfl rfl
theorem ml_L_83 : Cond.methodLink "StruckWordsLaw" 83 yX13_means ∈ tbl := in_7 180 rfl rfl
theorem ml_L_84 : Cond.methodLink "StruckWordsLaw" 84 yX12_readings ∈ tbl := in_4 72 rfl rfl
theorem ml_L_88 : Cond.methodLink "StruckWordsLaw" 88 yX13_readings ∈ tbl := in_7 206 rfl rfl
theorem ml_L_89 : Cond.methodLink "StruckWordsLaw" 89 yX12_sortAt ∈ tbl := in_4 93 rfl rfl
theorem ml_L_92 : Cond.methodLink "StruckWordsLaw" 92 yX13_sortAt ∈ tbl := in_7 214 rfl rfl
theorem ml_L_93 : Cond.methodLink "StruckWordsLaw" 93 yX12_turns ∈ tbl := in_4 111 rfl rfl
theorem ml_L_96 : Cond.methodLink "StruckWordsLaw" 96 yX13_turns ∈ tbl := in_7 218 rfl rfl
theorem ml_L_97 : Cond.methodLink "StruckWordsLaw" 97 yX12_against ∈ tbl := in_4 120 rfl rfl
def LL (j : Nat) : List (Nat × cv) := [(4, .inl (nI j)), (3, .inr (.inr 401)), (2, .inr (.inr 155)), (1, .inr (.inr 1)), (0, .inr (.inr 400))]
theorem lcmp_self (v : Int64) : lg_cmp v v = 0 := (lg_cmp_eq v v).mpr rfl
section LC
variable {κ : KL} {i j : Nat} {h : Hp} {o : Int64}
theorem lc_feed (X : OKL κ) (hi5 : i ≤ 1000) (hj : j + 6 ≤ kLn κ) (hL : kLn κ < 2147483648) (hI : Inv h) (K : ∀ h2, Inv h2 → JL κ 1448 (LL j) [] h2 o i) : JL κ 224 (LL j) [] h o i := by
  obtain ⟨v, h1, h2, q1, q2, hI2⟩ := st_feed (kXs κ (j + 1)) (kXs κ (j + 2)) (kXs κ (j + 3)) (kXs κ (j + 4)) (kXs κ (j + 5)) hI
  refine L_aload_n (pc := 224) X (k := 1) (j := 3) (k' := 1) (x := 1) (by decide) rfl rfl dL_law_224 ?_
  refine L_arg (pc := 225) X (j := j) (k := 1) (n := 0) (z := 1) (x := 0) rfl ⟨4, rfl⟩ rfl (by omega) hL dL_law_225 dL_law_226 dL_law_228 dL_law_229 dL_law_230 ?_
  refine L_arg (pc := 231) X (j := j) (k := 2) (n := 0) (z := 2) (x := 0) rfl ⟨4, rfl⟩ rfl (by omega) hL dL_law_231 dL_law_232 dL_law_234 dL_law_235 dL_law_236 ?_
  refine L_arg (pc := 237) X (j := j) (k := 3) (n := 0) (z := 3) (x := 0) rfl ⟨4, rfl⟩ rfl (by omega) hL dL_law_237 dL_law_238 dL_law_240 dL_law_241 dL_law_242 ?_
  refine L_arg (pc := 243) X (j := j) (k := 4) (n := 0) (z := 4) (x := 0) rfl ⟨4, rfl⟩ rfl (by omega) hL dL_law_243 dL_law_244 dL_law_246 dL_law_247 dL_law_248 ?_
  refine L_arg (pc := 249) X (j := j) (k := 5) (n := 0) (z := 5) (x := 0) rfl ⟨4, rfl⟩ rfl (by omega) hL dL_law_249 dL_law_250 dL_law_252 dL_law_253 dL_law_254 ?_
  refine L_callV (pc := 255) (as := [.inl (kXs κ (j + 1)), .inl (kXs κ (j + 2)), .inl (kXs κ (j + 3)), .inl (kXs κ (j + 4)), .inl (kXs κ (j + 5))]) (st := []) (st2 := [.inl v]) (r1 := (some (.inl v), h1)) (h2 := h1) (ky := 3) X dL_law_255 ca_X12_feed ci_X12_feed cs_X12_feed ml_L_22 (Nat.le_of_ble_eq_true rfl) ly1 rfl rfl (m_X12_feed _ _ _ _ _ _ _ q1) rfl rfl (Nat.le_of_ble_eq_true rfl) rfl rfl ?_ hi5
  refine L_aload_n (pc := 258) X (k := 2) (j := 2) (k' := 2) (x := 155) (by decide) rfl rfl dL_law_258 ?_
  refine L_arg (pc := 259) X (j := j) (k := 1) (n := 0) (z := 1) (x := 0) rfl ⟨4, rfl⟩ rfl (by omega) hL dL_law_259 dL_law_260 dL_law_262 dL_law_263 dL_law_264 ?_
  refine L_arg (pc := 265) X (j := j) (k := 2) (n := 0) (z := 2) (x := 0) rfl ⟨4, rfl⟩ rfl (by omega) hL dL_law_265 dL_law_266 dL_law_268 dL_law_269 dL_law_270 ?_
  refine L_arg (pc := 271) X (j := j) (k := 3) (n := 0) (z := 3) (x := 0) rfl ⟨4, rfl⟩ rfl (by omega) hL dL_law_271 dL_law_272 dL_law_274 dL_law_275 dL_law_276 ?_
  refine L_arg (pc := 277) X (j := j) (k := 4) (n := 0) (z := 4) (x := 0) rfl ⟨4, rfl⟩ rfl (by omega) hL dL_law_277 dL_law_278 dL_law_280 dL_law_281 dL_law_282 ?_
  refine L_arg (pc := 283) X (j := j) (k := 5) (n := 0) (z := 5) (x := 0) rfl ⟨4, rfl⟩ rfl (by omega) hL dL_law_283 dL_law_284 dL_law_286 dL_law_287 dL_law_288 ?_
  refine L_callV (pc := 289) (as := [.inl (kXs κ (j + 1)), .inl (kXs κ (j + 2)), .inl (kXs κ (j + 3)), .inl (kXs κ (j + 4)), .inl (kXs κ (j + 5))]) (st := [.inl v]) (st2 := [.inl v, .inl v]) (r1 := (some (.inl v), h2)) (h2 := h2) (ky := 2) X dL_law_289 ca_X13_feed ci_X13_feed cs_X13_feed ml_L_26 (Nat.le_of_ble_eq_true rfl) ly155 rfl rfl (m_X13_feed _ _ _ _ _ _ _ q2) rfl rfl (Nat.le_of_ble_eq_true rfl) rfl rfl ?_ hi5
  exact L_icmp_eq (pc := 292) X dL_law_292 rfl (fun _ => K h2 hI2) (fun z => absurd rfl z)
theorem lc_end (X : OKL κ) (hi5 : i ≤ 1000) (hj : j + 6 ≤ kLn κ) (hL : kLn κ < 2147483648) (hI : Inv h) (K : ∀ h2, Inv h2 → JL κ 1448 (LL j) [] h2 o i) : JL κ 297 (LL j) [] h o i := by
  obtain ⟨v, h1, h2, q1, q2, hI2⟩ := st_end (kXs κ (j + 1)) hI
  refine L_aload_n (pc := 297) X (k := 1) (j := 3) (k' := 1) (x := 1) (by decide) rfl rfl dL_law_297 ?_
  refine L_arg (pc := 298) X (j := j) (k := 1) (n := 0) (z := 1) (x := 0) rfl ⟨4, rfl⟩ rfl (by omega) hL dL_law_298 dL_law_299 dL_law_301 dL_law_302 dL_law_303 ?_
  refine L_callV (pc := 304) (as := [.inl (kXs κ (j + 1))]) (st := []) (st2 := [.inl v]) (r1 := (some (.inl v), h1)) (h2 := h1) (ky := 1) X dL_law_304 ca_X12_end ci_X12_end cs_X12_end ml_L_27 (Nat.le_of_ble_eq_true rfl) ly1 rfl rfl (m_X12_end _ _ _ q1) rfl rfl (Nat.le_of_ble_eq_true rfl) rfl rfl ?_ hi5
  refine L_aload_n (pc := 307) X (k := 2) (j := 2) (k' := 2) (x := 155) (by decide) rfl rfl dL_law_307 ?_
  refine L_arg (pc := 308) X (j := j) (k := 1) (n := 0) (z := 1) (x := 0) rfl ⟨4, rfl⟩ rfl (by omega) hL dL_law_308 dL_law_309 dL_law_311 dL_law_312 dL_law_313 ?_
  refine L_callV (pc := 314) (as := [.inl (kXs κ (j + 1))]) (st := [.inl v]) (st2 := [.inl v, .inl v]) (r1 := (some (.inl v), h2)) (h2 := h2) (ky := 1) X dL_law_314 ca_X13_end ci_X13_end cs_X13_end ml_L_31 (Nat.le_of_ble_eq_true rfl) ly155 rfl rfl (m_X13_end _ _ _ q2) rfl rfl (Nat.le_of_ble_eq_true rfl) rfl rfl ?_ hi5
  exact L_icmp_eq (pc := 317) X dL_law_317 rfl (fun _ => K h2 hI2) (fun z => absurd rfl z)
theorem lc_tongue (X : OKL κ) (hi5 : i ≤ 1000) (hj : j + 6 ≤ kLn κ) (hL : kLn κ < 2147483648) (hI : Inv h) (K : ∀ h2, Inv h2 → JL κ 1448 (LL j) [] h2 o i) : JL κ 322 (LL j) [] h o i := by
  obtain ⟨v, h1, h2, q1, q2, hI2⟩ := st_tongue  hI
  refine L_aload_n (pc := 322) X (k := 1) (j := 3) (k' := 1) (x := 1) (by decide) rfl rfl dL_law_322 ?_
  refine L_callV (pc := 323) (as := []) (st := []) (st2 := [.inl v]) (r1 := (some (.inl v), h1)) (h2 := h1) (ky := 7) X dL_law_323 ca_X12_tongue ci_X12_tongue cs_X12_tongue ml_L_32 (Nat.le_of_ble_eq_true rfl) ly1 rfl rfl (m_X12_tongue _ _ q1) rfl rfl (Nat.le_of_ble_eq_true rfl) rfl rfl ?_ hi5
  refine L_aload_n (pc := 326) X (k := 2) (j := 2) (k' := 2) (x := 155) (by decide) rfl rfl dL_law_326 ?_
  refine L_callV (pc := 327) (as := []) (st := [.inl v]) (st2 := [.inl v, .inl v]) (r1 := (some (.inl v), h2)) (h2 := h2) (ky := 6) X dL_law_327 ca_X13_tongue ci_X13_tongue cs_X13_tongue ml_L_36 (Nat.le_of_ble_eq_true rfl) ly155 rfl rfl (m_X13_tongue _ _ q2) rfl rfl (Nat.le_of_ble_eq_true rfl) rfl rfl ?_ hi5
  exact L_icmp_eq (pc := 330) X dL_law_330 rfl (fun _ => K h2 hI2) (fun z => absurd rfl z)
theorem lc_fault (X : OKL κ) (hi5 : i ≤ 1000) (hj : j + 6 ≤ kLn κ) (hL : kLn κ < 2147483648) (hI : Inv h) (K : ∀ h2, Inv h2 → JL κ 1448 (LL j) [] h2 o i) : JL κ 335 (LL j) [] h o i := by
  obtain ⟨v, h1, h2, q1, q2, hI2⟩ := st_fault  hI
  refine L_aload_n (pc := 335) X (k := 1) (j := 3) (k' := 1) (x := 1) (by decide) rfl rfl dL_law_335 ?_
  refine L_callV (pc := 336) (as := []) (st := []) (st2 := [.inl v]) (r1 := (some (.inl v), h1)) (h2 := h1) (ky := 1) X dL_law_336 ca_X12_fault ci_X12_fault cs_X12_fault ml_L_37 (Nat.le_of_ble_eq_true rfl) ly1 rfl rfl (m_X12_fault _ _ q1) rfl rfl (Nat.le_of_ble_eq_true rfl) rfl rfl ?_ hi5
  refine L_aload_n (pc := 339) X (k := 2) (j := 2) (k' := 2) (x := 155) (by decide) rfl rfl dL_law_339 ?_
  refine L_callV (pc := 340) (as := []) (st := [.inl v]) (st2 := [.inl v, .inl v]) (r1 := (some (.inl v), h2)) (h2 := h2) (ky := 1) X dL_law_340 ca_X13_fault ci_X13_fault cs_X13_fault ml_L_40 (Nat.le_of_ble_eq_true rfl) ly155 rfl rfl (m_X13_fault _ _ q2) rfl rfl (Nat.le_of_ble_eq_true rfl) rfl rfl ?_ hi5
  exact L_icmp_eq (pc := 343) X dL_law_343 rfl (fun _ => K h2 hI2) (fun z => absurd rfl z)
theorem lc_becomes (X : OKL κ) (hi5 : i ≤ 1000) (hj : j + 6 ≤ kLn κ) (hL : kLn κ < 2147483648) (hI : Inv h) (K : ∀ h2, Inv h2 → JL κ 1448 (LL j) [] h2 o i) : JL κ 416 (LL j) [] h o i := by
  obtain ⟨v, h1, h2, q1, q2, hI2⟩ := st_becomes (kXs κ (j + 1)) (kXs κ (j + 2)) (kXs κ (j + 3)) hI
  refine L_aload_n (pc := 416) X (k := 1) (j := 3) (k' := 1) (x := 1) (by decide) rfl rfl dL_law_416 ?_
  refine L_arg (pc := 417) X (j := j) (k := 1) (n := 0) (z := 1) (x := 0) rfl ⟨4, rfl⟩ rfl (by omega) hL dL_law_417 dL_law_418 dL_law_420 dL_law_421 dL_law_422 ?_
  refine L_arg (pc := 423) X (j := j) (k := 2) (n := 0) (z := 2) (x := 0) rfl ⟨4, rfl⟩ rfl (by omega) hL dL_law_423 dL_law_424 dL_law_426 dL_law_427 dL_law_428 ?_
  refine L_arg (pc := 429) X (j := j) (k := 3) (n := 0) (z := 3) (x := 0) rfl ⟨4, rfl⟩ rfl (by omega) hL dL_law_429 dL_law_430 dL_law_432 dL_law_433 dL_law_434 ?_
  refine L_callV (pc := 435) (as := [.inl (kXs κ (j + 1)), .inl (kXs κ (j + 2)), .inl (kXs κ (j + 3))]) (st := []) (st2 := [.inl v]) (r1 := (some (.inl v), h1)) (h2 := h1) (ky := 2) X dL_law_435 ca_X12_becomes ci_X12_becomes cs_X12_becomes ml_L_50 (Nat.le_of_ble_eq_true rfl) ly1 rfl rfl (m_X12_becomes _ _ _ _ _ q1) rfl rfl (Nat.le_of_ble_eq_true rfl) rfl rfl ?_ hi5
  refine L_aload_n (pc := 438) X (k := 2) (j := 2) (k' := 2) (x := 155) (by decide) rfl rfl dL_law_438 ?_
  refine L_arg (pc := 439) X (j := j) (k := 1) (n := 0) (z := 1) (x := 0) rfl ⟨4, rfl⟩ rfl (by omega) hL dL_law_439 dL_law_440 dL_law_442 dL_law_443 dL_law_444 ?_
  refine L_arg (pc := 445) X (j := j) (k := 2) (n := 0) (z := 2) (x := 0) rfl ⟨4, rfl⟩ rfl (by omega) hL dL_law_445 dL_law_446 dL_law_448 dL_law_449 dL_law_450 ?_
  refine L_arg (pc := 451) X (j := j) (k := 3) (n := 0) (z := 3) (x := 0) rfl ⟨4, rfl⟩ rfl (by omega) hL dL_law_451 dL_law_452 dL_law_454 dL_law_455 dL_law_456 ?_
  refine L_callV (pc := 457) (as := [.inl (kXs κ (j + 1)), .inl (kXs κ (j + 2)), .inl (kXs κ (j + 3))]) (st := [.inl v]) (st2 := [.inl v, .inl v]) (r1 := (some (.inl v), h2)) (h2 := h2) (ky := 3) X dL_law_457 ca_X13_becomes ci_X13_becomes cs_X13_becomes ml_L_54 (Nat.le_of_ble_eq_true rfl) ly155 rfl rfl (m_X13_becomes _ _ _ _ _ q2) rfl rfl (Nat.le_of_ble_eq_true rfl) rfl rfl ?_ hi5
  exact L_icmp_eq (pc := 460) X dL_law_460 rfl (fun _ => K h2 hI2) (fun z => absurd rfl z)
theorem lc_text (X : OKL κ) (hi5 : i ≤ 1000) (hj : j + 6 ≤ kLn κ) (hL : kLn κ < 2147483648) (hI : Inv h) (K : ∀ h2, Inv h2 → JL κ 1448 (LL j) [] h2 o i) : JL κ 465 (LL j) [] h o i := by
  obtain ⟨v, h1, h2, q1, q2, hI2⟩ := st_text  hI
  refine L_aload_n (pc := 465) X (k := 1) (j := 3) (k' := 1) (x := 1) (by decide) rfl rfl dL_law_465 ?_
  refine L_callV (pc := 466) (as := []) (st := []) (st2 := [.inl v]) (r1 := (some (.inl v), h1)) (h2 := h1) (ky := 6) X dL_law_466 ca_X12_text ci_X12_text cs_X12_text ml_L_55 (Nat.le_of_ble_eq_true rfl) ly1 rfl rfl (m_X12_text _ _ q1) rfl rfl (Nat.le_of_ble_eq_true rfl) rfl rfl ?_ hi5
  refine L_aload_n (pc := 469) X (k := 2) (j := 2) (k' := 2) (x := 155) (by decide) rfl rfl dL_law_469 ?_
  refine L_callV (pc := 470) (as := []) (st := [.inl v]) (st2 := [.inl v, .inl v]) (r1 := (some (.inl v), h2)) (h2 := h2) (ky := 3) X dL_law_470 ca_X13_text ci_X13_text cs_X13_text ml_L_58 (Nat.le_of_ble_eq_true rfl) ly155 rfl rfl (m_X13_text _ _ q2) rfl rfl (Nat.le_of_ble_eq_true rfl) rfl rfl ?_ hi5
  exact L_icmp_eq (pc := 473) X dL_law_473 rfl (fun _ => K h2 hI2) (fun z => absurd rfl z)
theorem lc_lay (X : OKL κ) (hi5 : i ≤ 1000) (hj : j + 6 ≤ kLn κ) (hL : kLn κ < 2147483648) (hI : Inv h) (K : ∀ h2, Inv h2 → JL κ 1448 (LL j) [] h2 o i) : JL κ 478 (LL j) [] h o i := by
  obtain ⟨v, h1, h2, q1, q2, hI2⟩ := st_lay  hI
  refine L_aload_n (pc := 478) X (k := 1) (j := 3) (k' := 1) (x := 1) (by decide) rfl rfl dL_law_478 ?_
  refine L_callV (pc := 479) (as := []) (st := []) (st2 := [.inl v]) (r1 := (some (.inl v), h1)) (h2 := h1) (ky := 4) X dL_law_479 ca_X12_lay ci_X12_lay cs_X12_lay ml_L_59 (Nat.le_of_ble_eq_true rfl) ly1 rfl rfl (m_X12_lay _ _ q1) rfl rfl (Nat.le_of_ble_eq_true rfl) rfl rfl ?_ hi5
  refine L_aload_n (pc := 482) X (k := 2) (j := 2) (k' := 2) (x := 155) (by decide) rfl rfl dL_law_482 ?_
  refine L_callV (pc := 483) (as := []) (st := [.inl v]) (st2 := [.inl v, .inl v]) (r1 := (some (.inl v), h2)) (h2 := h2) (ky := 3) X dL_law_483 ca_X13_lay ci_X13_lay cs_X13_lay ml_L_62 (Nat.le_of_ble_eq_true rfl) ly155 rfl rfl (m_X13_lay _ _ q2) rfl rfl (Nat.le_of_ble_eq_true rfl) rfl rfl ?_ hi5
  exact L_icmp_eq (pc := 486) X dL_law_486 rfl (fun _ => K h2 hI2) (fun z => absurd rfl z)
theorem lc_alike (X : OKL κ) (hi5 : i ≤ 1000) (hj : j + 6 ≤ kLn κ) (hL : kLn κ < 2147483648) (hI : Inv h) (K : ∀ h2, Inv h2 → JL κ 1448 (LL j) [] h2 o i) : JL κ 491 (LL j) [] h o i := by
  obtain ⟨v, h1, h2, q1, q2, hI2⟩ := st_alike (kXs κ (j + 1)) hI
  refine L_aload_n (pc := 491) X (k := 1) (j := 3) (k' := 1) (x := 1) (by decide) rfl rfl dL_law_491 ?_
  refine L_arg (pc := 492) X (j := j) (k := 1) (n := 0) (z := 1) (x := 0) rfl ⟨4, rfl⟩ rfl (by omega) hL dL_law_492 dL_law_493 dL_law_495 dL_law_496 dL_law_497 ?_
  refine L_callV (pc := 498) (as := [.inl (kXs κ (j + 1))]) (st := []) (st2 := [.inl v]) (r1 := (some (.inl v), h1)) (h2 := h1) (ky := 2) X dL_law_498 ca_X12_alike ci_X12_alike cs_X12_alike ml_L_63 (Nat.le_of_ble_eq_true rfl) ly1 rfl rfl (m_X12_alike _ _ _ q1) rfl rfl (Nat.le_of_ble_eq_true rfl) rfl rfl ?_ hi5
  refine L_aload_n (pc := 501) X (k := 2) (j := 2) (k' := 2) (x := 155) (by decide) rfl rfl dL_law_501 ?_
  refine L_arg (pc := 502) X (j := j) (k := 1) (n := 0) (z := 1) (x := 0) rfl ⟨4, rfl⟩ rfl (by omega) hL dL_law_502 dL_law_503 dL_law_505 dL_law_506 dL_law_507 ?_
  refine L_callV (pc := 508) (as := [.inl (kXs κ (j + 1))]) (st := [.inl v]) (st2 := [.inl v, .inl v]) (r1 := (some (.inl v), h2)) (h2 := h2) (ky := 3) X dL_law_508 ca_X13_alike ci_X13_alike cs_X13_alike ml_L_67 (Nat.le_of_ble_eq_true rfl) ly155 rfl rfl (m_X13_alike _ _ _ q2) rfl rfl (Nat.le_of_ble_eq_true rfl) rfl rfl ?_ hi5
  exact L_icmp_eq (pc := 511) X dL_law_511 rfl (fun _ => K h2 hI2) (fun z => absurd rfl z)
theorem lc_drawn (X : OKL κ) (hi5 : i ≤ 1000) (hj : j + 6 ≤ kLn κ) (hL : kLn κ < 2147483648) (hI : Inv h) (K : ∀ h2, Inv h2 → JL κ 1448 (LL j) [] h2 o i) : JL κ 516 (LL j) [] h o i := by
  obtain ⟨v, h1, h2, q1, q2, hI2⟩ := st_drawn (kXs κ (j + 1)) (kXs κ (j + 2)) hI
  refine L_aload_n (pc := 516) X (k := 1) (j := 3) (k' := 1) (x := 1) (by decide) rfl rfl dL_law_516 ?_
  refine L_arg (pc := 517) X (j := j) (k := 1) (n := 0) (z := 1) (x := 0) rfl ⟨4, rfl⟩ rfl (by omega) hL dL_law_517 dL_law_518 dL_law_520 dL_law_521 dL_law_522 ?_
  refine L_arg (pc := 523) X (j := j) (k := 2) (n := 0) (z := 2) (x := 0) rfl ⟨4, rfl⟩ rfl (by omega) hL dL_law_523 dL_law_524 dL_law_526 dL_law_527 dL_law_528 ?_
  refine L_callV (pc := 529) (as := [.inl (kXs κ (j + 1)), .inl (kXs κ (j + 2))]) (st := []) (st2 := [.inl v]) (r1 := (some (.inl v), h1)) (h2 := h1) (ky := 2) X dL_law_529 ca_X12_drawn ci_X12_drawn cs_X12_drawn ml_L_68 (Nat.le_of_ble_eq_true rfl) ly1 rfl rfl (m_X12_drawn _ _ _ _ q1) rfl rfl (Nat.le_of_ble_eq_true rfl) rfl rfl ?_ hi5
  refine L_aload_n (pc := 532) X (k := 2) (j := 2) (k' := 2) (x := 155) (by decide) rfl rfl dL_law_532 ?_
  refine L_arg (pc := 533) X (j := j) (k := 1) (n := 0) (z := 1) (x := 0) rfl ⟨4, rfl⟩ rfl (by omega) hL dL_law_533 dL_law_534 dL_law_536 dL_law_537 dL_law_538 ?_
  refine L_arg (pc := 539) X (j := j) (k := 2) (n := 0) (z := 2) (x := 0) rfl ⟨4, rfl⟩ rfl (by omega) hL dL_law_539 dL_law_540 dL_law_542 dL_law_543 dL_law_544 ?_
  refine L_callV (pc := 545) (as := [.inl (kXs κ (j + 1)), .inl (kXs κ (j + 2))]) (st := [.inl v]) (st2 := [.inl v, .inl v]) (r1 := (some (.inl v), h2)) (h2 := h2) (ky := 2) X dL_law_545 ca_X13_drawn ci_X13_drawn cs_X13_drawn ml_L_71 (Nat.le_of_ble_eq_true rfl) ly155 rfl rfl (m_X13_drawn _ _ _ _ q2) rfl rfl (Nat.le_of_ble_eq_true rfl) rfl rfl ?_ hi5
  exact L_icmp_eq (pc := 548) X dL_law_548 rfl (fun _ => K h2 hI2) (fun z => absurd rfl z)
theorem lc_left (X : OKL κ) (hi5 : i ≤ 1000) (hj : j + 6 ≤ kLn κ) (hL : kLn κ < 2147483648) (hI : Inv h) (K : ∀ h2, Inv h2 → JL κ 1448 (LL j) [] h2 o i) : JL κ 553 (LL j) [] h o i := by
  obtain ⟨v, h1, h2, q1, q2, hI2⟩ := st_left (kXs κ (j + 1)) hI
  refine L_aload_n (pc := 553) X (k := 1) (j := 3) (k' := 1) (x := 1) (by decide) rfl rfl dL_law_553 ?_
  refine L_arg (pc := 554) X (j := j) (k := 1) (n := 0) (z := 1) (x := 0) rfl ⟨4, rfl⟩ rfl (by omega) hL dL_law_554 dL_law_555 dL_law_557 dL_law_558 dL_law_559 ?_
  refine L_callV (pc := 560) (as := [.inl (kXs κ (j + 1))]) (st := []) (st2 := [.inl v]) (r1 := (some (.inl v), h1)) (h2 := h1) (ky := 3) X dL_law_560 ca_X12_left ci_X12_left cs_X12_left ml_L_72 (Nat.le_of_ble_eq_true rfl) ly1 rfl rfl (m_X12_left _ _ _ q1) rfl rfl (Nat.le_of_ble_eq_true rfl) rfl rfl ?_ hi5
  refine L_aload_n (pc := 563) X (k := 2) (j := 2) (k' := 2) (x := 155) (by decide) rfl rfl dL_law_563 ?_
  refine L_arg (pc := 564) X (j := j) (k := 1) (n := 0) (z := 1) (x := 0) rfl ⟨4, rfl⟩ rfl (by omega) hL dL_law_564 dL_law_565 dL_law_567 dL_law_568 dL_law_569 ?_
  refine L_callV (pc := 570) (as := [.inl (kXs κ (j + 1))]) (st := [.inl v]) (st2 := [.inl v, .inl v]) (r1 := (some (.inl v), h2)) (h2 := h2) (ky := 4) X dL_law_570 ca_X13_left ci_X13_left cs_X13_left ml_L_75 (Nat.le_of_ble_eq_true rfl) ly155 rfl rfl (m_X13_left _ _ _ q2) rfl rfl (Nat.le_of_ble_eq_true rfl) rfl rfl ?_ hi5
  exact L_icmp_eq (pc := 573) X dL_law_573 rfl (fun _ => K h2 hI2) (fun z => absurd rfl z)
theorem lc_leftAt (X : OKL κ) (hi5 : i ≤ 1000) (hj : j + 6 ≤ kLn κ) (hL : kLn κ < 2147483648) (hI : Inv h) (K : ∀ h2, Inv h2 → JL κ 1448 (LL j) [] h2 o i) : JL κ 578 (LL j) [] h o i := by
  obtain ⟨v, h1, h2, q1, q2, hI2⟩ := st_leftAt (kXs κ (j + 1)) (kXs κ (j + 2)) hI
  refine L_aload_n (pc := 578) X (k := 1) (j := 3) (k' := 1) (x := 1) (by decide) rfl rfl dL_law_578 ?_
  refine L_arg (pc := 579) X (j := j) (k := 1) (n := 0) (z := 1) (x := 0) rfl ⟨4, rfl⟩ rfl (by omega) hL dL_law_579 dL_law_580 dL_law_582 dL_law_583 dL_law_584 ?_
  refine L_arg (pc := 585) X (j := j) (k := 2) (n := 0) (z := 2) (x := 0) rfl ⟨4, rfl⟩ rfl (by omega) hL dL_law_585 dL_law_586 dL_law_588 dL_law_589 dL_law_590 ?_
  refine L_callV (pc := 591) (as := [.inl (kXs κ (j + 1)), .inl (kXs κ (j + 2))]) (st := []) (st2 := [.inl v]) (r1 := (some (.inl v), h1)) (h2 := h1) (ky := 3) X dL_law_591 ca_X12_leftAt ci_X12_leftAt cs_X12_leftAt ml_L_76 (Nat.le_of_ble_eq_true rfl) ly1 rfl rfl (m_X12_leftAt _ _ _ _ q1) rfl rfl (Nat.le_of_ble_eq_true rfl) rfl rfl ?_ hi5
  refine L_aload_n (pc := 594) X (k := 2) (j := 2) (k' := 2) (x := 155) (by decide) rfl rfl dL_law_594 ?_
  refine L_arg (pc := 595) X (j := j) (k := 1) (n := 0) (z := 1) (x := 0) rfl ⟨4, rfl⟩ rfl (by omega) hL dL_law_595 dL_law_596 dL_law_598 dL_law_599 dL_law_600 ?_
  refine L_arg (pc := 601) X (j := j) (k := 2) (n := 0) (z := 2) (x := 0) rfl ⟨4, rfl⟩ rfl (by omega) hL dL_law_601 dL_law_602 dL_law_604 dL_law_605 dL_law_606 ?_
  refine L_callV (pc := 607) (as := [.inl (kXs κ (j + 1)), .inl (kXs κ (j + 2))]) (st := [.inl v]) (st2 := [.inl v, .inl v]) (r1 := (some (.inl v), h2)) (h2 := h2) (ky := 4) X dL_law_607 ca_X13_leftAt ci_X13_leftAt cs_X13_leftAt ml_L_79 (Nat.le_of_ble_eq_true rfl) ly155 rfl rfl (m_X13_leftAt _ _ _ _ q2) rfl rfl (Nat.le_of_ble_eq_true rfl) rfl rfl ?_ hi5
  exact L_icmp_eq (pc := 610) X dL_law_610 rfl (fun _ => K h2 hI2) (fun z => absurd rfl z)
theorem lc_means (X : OKL κ) (hi5 : i ≤ 1000) (hj : j + 6 ≤ kLn κ) (hL : kLn κ < 2147483648) (hI : Inv h) (K : ∀ h2, Inv h2 → JL κ 1448 (LL j) [] h2 o i) : JL κ 615 (LL j) [] h o i := by
  obtain ⟨v, h1, h2, q1, q2, hI2⟩ := st_means (kXs κ (j + 1)) hI
  refine L_aload_n (pc := 615) X (k := 1) (j := 3) (k' := 1) (x := 1) (by decide) rfl rfl dL_law_615 ?_
  refine L_arg (pc := 616) X (j := j) (k := 1) (n := 0) (z := 1) (x := 0) rfl ⟨4, rfl⟩ rfl (by omega) hL dL_law_616 dL_law_617 dL_law_619 dL_law_620 dL_law_621 ?_
  refine L_callV (pc := 622) (as := [.inl (kXs κ (j + 1))]) (st := []) (st2 := [.inl v]) (r1 := (some (.inl v), h1)) (h2 := h1) (ky := 4) X dL_law_622 ca_X12_means ci_X12_means cs_X12_means ml_L_80 (Nat.le_of_ble_eq_true rfl) ly1 rfl rfl (m_X12_means _ _ _ q1) rfl rfl (Nat.le_of_ble_eq_true rfl) rfl rfl ?_ hi5
  refine L_aload_n (pc := 625) X (k := 2) (j := 2) (k' := 2) (x := 155) (by decide) rfl rfl dL_law_625 ?_
  refine L_arg (pc := 626) X (j := j) (k := 1) (n := 0) (z := 1) (x := 0) rfl ⟨4, rfl⟩ rfl (by omega) hL dL_law_626 dL_law_627 dL_law_629 dL_law_630 dL_law_631 ?_
  refine L_callV (pc := 632) (as := [.inl (kXs κ (j + 1))]) (st := [.inl v]) (st2 := [.inl v, .inl v]) (r1 := (some (.inl v), h2)) (h2 := h2) (ky := 5) X dL_law_632 ca_X13_means ci_X13_means cs_X13_means ml_L_83 (Nat.le_of_ble_eq_true rfl) ly155 rfl rfl (m_X13_means _ _ _ q2) rfl rfl (Nat.le_of_ble_eq_true rfl) rfl rfl ?_ hi5
  exact L_icmp_eq (pc := 635) X dL_law_635 rfl (fun _ => K h2 hI2) (fun z => absurd rfl z)
theorem lc_readings (X : OKL κ) (hi5 : i ≤ 1000) (hj : j + 6 ≤ kLn κ) (hL : kLn κ < 2147483648) (hI : Inv h) (K : ∀ h2, Inv h2 → JL κ 1448 (LL j) [] h2 o i) : JL κ 640 (LL j) [] h o i := by
  obtain ⟨v, h1, h2, q1, q2, hI2⟩ := st_readings (kXs κ (j + 1)) hI
  refine L_aload_n (pc := 640) X (k := 1) (j := 3) (k' := 1) (x := 1) (by decide) rfl rfl dL_law_640 ?_
  refine L_arg (pc := 641) X (j := j) (k := 1) (n := 0) (z := 1) (x := 0) rfl ⟨4, rfl⟩ rfl (by omega) hL dL_law_641 dL_law_642 dL_law_644 dL_law_645 dL_law_646 ?_
  refine L_callV (pc := 647) (as := [.inl (kXs κ (j + 1))]) (st := []) (st2 := [.inr (.inl v)]) (r1 := (some (.inr (.inl v)), h1)) (h2 := h1) (ky := 5) X dL_law_647 ca_X12_readings ci_X12_readings cs_X12_readings ml_L_84 (Nat.le_of_ble_eq_true rfl) ly1 rfl rfl (m_X12_readings _ _ _ q1) rfl rfl (Nat.le_of_ble_eq_true rfl) rfl rfl ?_ hi5
  refine L_aload_n (pc := 650) X (k := 2) (j := 2) (k' := 2) (x := 155) (by decide) rfl rfl dL_law_650 ?_
  refine L_arg (pc := 651) X (j := j) (k := 1) (n := 0) (z := 1) (x := 0) rfl ⟨4, rfl⟩ rfl (by omega) hL dL_law_651 dL_law_652 dL_law_654 dL_law_655 dL_law_656 ?_
  refine L_callV (pc := 657) (as := [.inl (kXs κ (j + 1))]) (st := [.inr (.inl v)]) (st2 := [.inr (.inl v), .inr (.inl v)]) (r1 := (some (.inr (.inl v)), h2)) (h2 := h2) (ky := 4) X dL_law_657 ca_X13_readings ci_X13_readings cs_X13_readings ml_L_88 (Nat.le_of_ble_eq_true rfl) ly155 rfl rfl (m_X13_readings _ _ _ q2) rfl rfl (Nat.le_of_ble_eq_true rfl) rfl rfl ?_ hi5
  refine L_lcmp (pc := 660) X dL_law_660 ?_
  exact L_if_eq (pc := 661) X dL_law_661 rfl (fun _ => K h2 hI2) (fun z => absurd (lcmp_self v) z)
theorem lc_sortAt (X : OKL κ) (hi5 : i ≤ 1000) (hj : j + 6 ≤ kLn κ) (hL : kLn κ < 2147483648) (hI : Inv h) (K : ∀ h2, Inv h2 → JL κ 1448 (LL j) [] h2 o i) : JL κ 666 (LL j) [] h o i := by
  obtain ⟨v, h1, h2, q1, q2, hI2⟩ := st_sortAt (kXs κ (j + 1)) (kXs κ (j + 2)) hI
  refine L_aload_n (pc := 666) X (k := 1) (j := 3) (k' := 1) (x := 1) (by decide) rfl rfl dL_law_666 ?_
  refine L_arg (pc := 667) X (j := j) (k := 1) (n := 0) (z := 1) (x := 0) rfl ⟨4, rfl⟩ rfl (by omega) hL dL_law_667 dL_law_668 dL_law_670 dL_law_671 dL_law_672 ?_
  refine L_arg (pc := 673) X (j := j) (k := 2) (n := 0) (z := 2) (x := 0) rfl ⟨4, rfl⟩ rfl (by omega) hL dL_law_673 dL_law_674 dL_law_676 dL_law_677 dL_law_678 ?_
  refine L_callV (pc := 679) (as := [.inl (kXs κ (j + 1)), .inl (kXs κ (j + 2))]) (st := []) (st2 := [.inl v]) (r1 := (some (.inl v), h1)) (h2 := h1) (ky := 5) X dL_law_679 ca_X12_sortAt ci_X12_sortAt cs_X12_sortAt ml_L_89 (Nat.le_of_ble_eq_true rfl) ly1 rfl rfl (m_X12_sortAt _ _ _ _ q1) rfl rfl (Nat.le_of_ble_eq_true rfl) rfl rfl ?_ hi5
  refine L_aload_n (pc := 682) X (k := 2) (j := 2) (k' := 2) (x := 155) (by decide) rfl rfl dL_law_682 ?_
  refine L_arg (pc := 683) X (j := j) (k := 1) (n := 0) (z := 1) (x := 0) rfl ⟨4, rfl⟩ rfl (by omega) hL dL_law_683 dL_law_684 dL_law_686 dL_law_687 dL_law_688 ?_
  refine L_arg (pc := 689) X (j := j) (k := 2) (n := 0) (z := 2) (x := 0) rfl ⟨4, rfl⟩ rfl (by omega) hL dL_law_689 dL_law_690 dL_law_692 dL_law_693 dL_law_694 ?_
  refine L_callV (pc := 695) (as := [.inl (kXs κ (j + 1)), .inl (kXs κ (j + 2))]) (st := [.inl v]) (st2 := [.inl v, .inl v]) (r1 := (some (.inl v), h2)) (h2 := h2) (ky := 4) X dL_law_695 ca_X13_sortAt ci_X13_sortAt cs_X13_sortAt ml_L_92 (Nat.le_of_ble_eq_true rfl) ly155 rfl rfl (m_X13_sortAt _ _ _ _ q2) rfl rfl (Nat.le_of_ble_eq_true rfl) rfl rfl ?_ hi5
  exact L_icmp_eq (pc := 698) X dL_law_698 rfl (fun _ => K h2 hI2) (fun z => absurd rfl z)
theorem lc_turns (X : OKL κ) (hi5 : i ≤ 1000) (hj : j + 6 ≤ kLn κ) (hL : kLn κ < 2147483648) (hI : Inv h) (K : ∀ h2, Inv h2 → JL κ 1448 (LL j) [] h2 o i) : JL κ 703 (LL j) [] h o i := by
  obtain ⟨v, h1, h2, q1, q2, hI2⟩ := st_turns  hI
  refine L_aload_n (pc := 703) X (k := 1) (j := 3) (k' := 1) (x := 1) (by decide) rfl rfl dL_law_703 ?_
  refine L_callV (pc := 704) (as := []) (st := []) (st2 := [.inl v]) (r1 := (some (.inl v), h1)) (h2 := h1) (ky := 5) X dL_law_704 ca_X12_turns ci_X12_turns cs_X12_turns ml_L_93 (Nat.le_of_ble_eq_true rfl) ly1 rfl rfl (m_X12_turns _ _ q1) rfl rfl (Nat.le_of_ble_eq_true rfl) rfl rfl ?_ hi5
  refine L_aload_n (pc := 707) X (k := 2) (j := 2) (k' := 2) (x := 155) (by decide) rfl rfl dL_law_707 ?_
  refine L_callV (pc := 708) (as := []) (st := [.inl v]) (st2 := [.inl v, .inl v]) (r1 := (some (.inl v), h2)) (h2 := h2) (ky := 5) X dL_law_708 ca_X13_turns ci_X13_turns cs_X13_turns ml_L_96 (Nat.le_of_ble_eq_true rfl) ly155 rfl rfl (m_X13_turns _ _ q2) rfl rfl (Nat.le_of_ble_eq_true rfl) rfl rfl ?_ hi5
  exact L_icmp_eq (pc := 711) X dL_law_711 rfl (fun _ => K h2 hI2) (fun z => absurd rfl z)
theorem lc_against (X : OKL κ) (hi5 : i ≤ 1000) (hj : j + 6 ≤ kLn κ) (hL : kLn κ < 2147483648) (hI : Inv h) (K : ∀ h2, Inv h2 → JL κ 1448 (LL j) [] h2 o i) : JL κ 716 (LL j) [] h o i := by
  obtain ⟨v, h1, h2, q1, q2, hI2⟩ := st_against (kXs κ (j + 1)) hI
  refine L_aload_n (pc := 716) X (k := 1) (j := 3) (k' := 1) (x := 1) (by decide) rfl rfl dL_law_716 ?_
  refine L_arg (pc := 717) X (j := j) (k := 1) (n := 0) (z := 1) (x := 0) rfl ⟨4, rfl⟩ rfl (by omega) hL dL_law_717 dL_law_718 dL_law_720 dL_law_721 dL_law_722 ?_
  refine L_callV (pc := 723) (as := [.inl (kXs κ (j + 1))]) (st := []) (st2 := [.inl v]) (r1 := (some (.inl v), h1)) (h2 := h1) (ky := 4) X dL_law_723 ca_X12_against ci_X12_against cs_X12_against ml_L_97 (Nat.le_of_ble_eq_true rfl) ly1 rfl rfl (m_X12_against _ _ _ q1) rfl rfl (Nat.le_of_ble_eq_true rfl) rfl rfl ?_ hi5
  refine L_aload_n (pc := 726) X (k := 2) (j := 2) (k' := 2) (x := 155) (by decide) rfl rfl dL_law_726 ?_
  refine L_arg (pc := 727) X (j := j) (k := 1) (n := 0) (z := 1) (x := 0) rfl ⟨4, rfl⟩ rfl (by omega) hL dL_law_727 dL_law_728 dL_law_730 dL_law_731 dL_law_732 ?_
  refine L_callV (pc := 733) (as := [.inl (kXs κ (j + 1))]) (st := [.inl v]) (st2 := [.inl v, .inl v]) (r1 := (some (.inl v), h2)) (h2 := h2) (ky := 5) X dL_law_733 ca_X13_against ci_X13_against cs_X13_against ml_L_100 (Nat.le_of_ble_eq_true rfl) ly155 rfl rfl (m_X13_against _ _ _ q2) rfl rfl (Nat.le_of_ble_eq_true rfl) rfl rfl ?_ hi5
  exact L_icmp_eq (pc := 736) X dL_law_736 rfl (fun _ => K h2 hI2) (fun z => absurd rfl z)
theorem lc_twice (X : OKL κ) (hi5 : i ≤ 1000) (hj : j + 6 ≤ kLn κ) (hL : kLn κ < 2147483648) (hI : Inv h) (K : ∀ h2, Inv h2 → JL κ 1448 (LL j) [] h2 o i) : JL κ 741 (LL j) [] h o i := by
  obtain ⟨v, h1, h2, q1, q2, hI2⟩ := st_twice (kXs κ (j + 1)) (kXs κ (j + 2)) hI
  refine L_aload_n (pc := 741) X (k := 1) (j := 3) (k' := 1) (x := 1) (by decide) rfl rfl dL_law_741 ?_
  refine L_arg (pc := 742) X (j := j) (k := 1) (n := 0) (z := 1) (x := 0) rfl ⟨4, rfl⟩ rfl (by omega) hL dL_law_742 dL_law_743 dL_law_745 dL_law_746 dL_law_747 ?_
  refine L_arg (pc := 748) X (j := j) (k := 2) (n := 0) (z := 2) (x := 0) rfl ⟨4, rfl⟩ rfl (by omega) hL dL_law_748 dL_law_749 dL_law_751 dL_law_752 dL_law_753 ?_
  refine L_callV (pc := 754) (as := [.inl (kXs κ (j + 1)), .inl (kXs κ (j + 2))]) (st := []) (st2 := [.inl v]) (r1 := (some (.inl v), h1)) (h2 := h1) (ky := 4) X dL_law_754 ca_X12_twice ci_X12_twice cs_X12_twice ml_L_101 (Nat.le_of_ble_eq_true rfl) ly1 rfl rfl (m_X12_twice _ _ _ _ q1) rfl rfl (Nat.le_of_ble_eq_true rfl) rfl rfl ?_ hi5
  refine L_aload_n (pc := 757) X (k := 2) (j := 2) (k' := 2) (x := 155) (by decide) rfl rfl dL_law_757 ?_
  refine L_arg (pc := 758) X (j := j) (k := 1) (n := 0) (z := 1) (x := 0) rfl ⟨4, rfl⟩ rfl (by omega) hL dL_law_758 dL_law_759 dL_law_761 dL_law_762 dL_law_763 ?_
  refine L_arg (pc := 764) X (j := j) (k := 2) (n := 0) (z := 2) (x := 0) rfl ⟨4, rfl⟩ rfl (by omega) hL dL_law_764 dL_law_765 dL_law_767 dL_law_768 dL_law_769 ?_
  refine L_callV (pc := 770) (as := [.inl (kXs κ (j + 1)), .inl (kXs κ (j + 2))]) (st := [.inl v]) (st2 := [.inl v, .inl v]) (r1 := (some (.inl v), h2)) (h2 := h2) (ky := 4) X dL_law_770 ca_X13_twice ci_X13_twice cs_X13_twice ml_L_104 (Nat.le_of_ble_eq_true rfl) ly155 rfl rfl (m_X13_twice _ _ _ _ q2) rfl rfl (Nat.le_of_ble_eq_true rfl) rfl rfl ?_ hi5
  exact L_icmp_eq (pc := 773) X dL_law_773 rfl (fun _ => K h2 hI2) (fun z => absurd rfl z)
theorem lc_standIn (X : OKL κ) (hi5 : i ≤ 1000) (hj : j + 6 ≤ kLn κ) (hL : kLn κ < 2147483648) (hI : Inv h) (K : ∀ h2, Inv h2 → JL κ 1448 (LL j) [] h2 o i) : JL κ 778 (LL j) [] h o i := by
  obtain ⟨v, h1, h2, q1, q2, hI2⟩ := st_standIn (kXs κ (j + 1)) hI
  refine L_aload_n (pc := 778) X (k := 1) (j := 3) (k' := 1) (x := 1) (by decide) rfl rfl dL_law_778 ?_
  refine L_arg (pc := 779) X (j := j) (k := 1) (n := 0) (z := 1) (x := 0) rfl ⟨4, rfl⟩ rfl (by omega) hL dL_law_779 dL_law_780 dL_law_782 dL_law_783 dL_law_784 ?_
  refine L_callV (pc := 785) (as := [.inl (kXs κ (j + 1))]) (st := []) (st2 := [.inl v]) (r1 := (some (.inl v), h1)) (h2 := h1) (ky := 5) X dL_law_785 ca_X12_standIn ci_X12_standIn cs_X12_standIn ml_L_105 (Nat.le_of_ble_eq_true rfl) ly1 rfl rfl (m_X12_standIn _ _ _ q1) rfl rfl (Nat.le_of_ble_eq_true rfl) rfl rfl ?_ hi5
  refine L_aload_n (pc := 788) X (k := 2) (j := 2) (k' := 2) (x := 155) (by decide) rfl rfl dL_law_788 ?_
  refine L_arg (pc := 789) X (j := j) (k := 1) (n := 0) (z := 1) (x := 0) rfl ⟨4, rfl⟩ rfl (by omega) hL dL_law_789 dL_law_790 dL_law_792 dL_law_793 dL_law_794 ?_
  refine L_callV (pc := 795) (as := [.inl (kXs κ (j + 1))]) (st := [.inl v]) (st2 := [.inl v, .inl v]) (r1 := (some (.inl v), h2)) (h2 := h2) (ky := 5) X dL_law_795 ca_X13_standIn ci_X13_standIn cs_X13_standIn ml_L_108 (Nat.le_of_ble_eq_true rfl) ly155 rfl rfl (m_X13_standIn _ _ _ q2) rfl rfl (Nat.le_of_ble_eq_true rfl) rfl rfl ?_ hi5
  exact L_icmp_eq (pc := 798) X dL_law_798 rfl (fun _ => K h2 hI2) (fun z => absurd rfl z)
theorem lc_safe (X : OKL κ) (hi5 : i ≤ 1000) (hj : j + 6 ≤ kLn κ) (hL : kLn κ < 2147483648) (hI : Inv h) (K : ∀ h2, Inv h2 → JL κ 1448 (LL j) [] h2 o i) : JL κ 803 (LL j) [] h o i := by
  obtain ⟨v, h1, h2, q1, q2, hI2⟩ := st_safe  hI
  refine L_aload_n (pc := 803) X (k := 1) (j := 3) (k' := 1) (x := 1) (by decide) rfl rfl dL_law_803 ?_
  refine L_callV (pc := 804) (as := []) (st := []) (st2 := [.inl v]) (r1 := (some (.inl v), h1)) (h2 := h1) (ky := 4) X dL_law_804 ca_X12_safe ci_X12_safe cs_X12_safe ml_L_109 (Nat.le_of_ble_eq_true rfl) ly1 rfl rfl (m_X12_safe _ _ q1) rfl rfl (Nat.le_of_ble_eq_true rfl) rfl rfl ?_ hi5
  refine L_aload_n (pc := 807) X (k := 2) (j := 2) (k' := 2) (x := 155) (by decide) rfl rfl dL_law_807 ?_
  refine L_callV (pc := 808) (as := []) (st := [.inl v]) (st2 := [.inl v, .inl v]) (r1 := (some (.inl v), h2)) (h2 := h2) (ky := 5) X dL_law_808 ca_X13_safe ci_X13_safe cs_X13_safe ml_L_112 (Nat.le_of_ble_eq_true rfl) ly155 rfl rfl (m_X13_safe _ _ q2) rfl rfl (Nat.le_of_ble_eq_true rfl) rfl rfl ?_ hi5
  exact L_icmp_eq (pc := 811) X dL_law_811 rfl (fun _ => K h2 hI2) (fun z => absurd rfl z)
theorem lc_scans (X : OKL κ) (hi5 : i ≤ 1000) (hj : j + 6 ≤ kLn κ) (hL : kLn κ < 2147483648) (hI : Inv h) (K : ∀ h2, Inv h2 → JL κ 1448 (LL j) [] h2 o i) : JL κ 884 (LL j) [] h o i := by
  obtain ⟨v, h1, h2, q1, q2, hI2⟩ := st_scans (kXs κ (j + 1)) hI
  refine L_aload_n (pc := 884) X (k := 1) (j := 3) (k' := 1) (x := 1) (by decide) rfl rfl dL_law_884 ?_
  refine L_arg (pc := 885) X (j := j) (k := 1) (n := 0) (z := 1) (x := 0) rfl ⟨4, rfl⟩ rfl (by omega) hL dL_law_885 dL_law_886 dL_law_888 dL_law_889 dL_law_890 ?_
  refine L_callV (pc := 891) (as := [.inl (kXs κ (j + 1))]) (st := []) (st2 := [.inl v]) (r1 := (some (.inl v), h1)) (h2 := h1) (ky := 3) X dL_law_891 ca_X12_scans ci_X12_scans cs_X12_scans ml_L_116 (Nat.le_of_ble_eq_true rfl) ly1 rfl rfl (m_X12_scans _ _ _ q1) rfl rfl (Nat.le_of_ble_eq_true rfl) rfl rfl ?_ hi5
  refine L_aload_n (pc := 894) X (k := 2) (j := 2) (k' := 2) (x := 155) (by decide) rfl rfl dL_law_894 ?_
  refine L_arg (pc := 895) X (j := j) (k := 1) (n := 0) (z := 1) (x := 0) rfl ⟨4, rfl⟩ rfl (by omega) hL dL_law_895 dL_law_896 dL_law_898 dL_law_899 dL_law_900 ?_
  refine L_callV (pc := 901) (as := [.inl (kXs κ (j + 1))]) (st := [.inl v]) (st2 := [.inl v, .inl v]) (r1 := (some (.inl v), h2)) (h2 := h2) (ky := 4) X dL_law_901 ca_X13_scans ci_X13_scans cs_X13_scans ml_L_119 (Nat.le_of_ble_eq_true rfl) ly155 rfl rfl (m_X13_scans _ _ _ q2) rfl rfl (Nat.le_of_ble_eq_true rfl) rfl rfl ?_ hi5
  exact L_icmp_eq (pc := 904) X dL_law_904 rfl (fun _ => K h2 hI2) (fun z => absurd rfl z)
theorem lc_letters (X : OKL κ) (hi5 : i ≤ 1000) (hj : j + 6 ≤ kLn κ) (hL : kLn κ < 2147483648) (hI : Inv h) (K : ∀ h2, Inv h2 → JL κ 1448 (LL j) [] h2 o i) : JL κ 909 (LL j) [] h o i := by
  obtain ⟨v, h1, h2, q1, q2, hI2⟩ := st_letters (kXs κ (j + 1)) hI
  refine L_aload_n (pc := 909) X (k := 1) (j := 3) (k' := 1) (x := 1) (by decide) rfl rfl dL_law_909 ?_
  refine L_arg (pc := 910) X (j := j) (k := 1) (n := 0) (z := 1) (x := 0) rfl ⟨4, rfl⟩ rfl (by omega) hL dL_law_910 dL_law_911 dL_law_913 dL_law_914 dL_law_915 ?_
  refine L_callV (pc := 916) (as := [.inl (kXs κ (j + 1))]) (st := []) (st2 := [.inr (.inl v)]) (r1 := (some (.inr (.inl v)), h1)) (h2 := h1) (ky := 4) X dL_law_916 ca_X12_letters ci_X12_letters cs_X12_letters ml_L_120 (Nat.le_of_ble_eq_true rfl) ly1 rfl rfl (m_X12_letters _ _ _ q1) rfl rfl (Nat.le_of_ble_eq_true rfl) rfl rfl ?_ hi5
  refine L_aload_n (pc := 919) X (k := 2) (j := 2) (k' := 2) (x := 155) (by decide) rfl rfl dL_law_919 ?_
  refine L_arg (pc := 920) X (j := j) (k := 1) (n := 0) (z := 1) (x := 0) rfl ⟨4, rfl⟩ rfl (by omega) hL dL_law_920 dL_law_921 dL_law_923 dL_law_924 dL_law_925 ?_
  refine L_callV (pc := 926) (as := [.inl (kXs κ (j + 1))]) (st := [.inr (.inl v)]) (st2 := [.inr (.inl v), .inr (.inl v)]) (r1 := (some (.inr (.inl v)), h2)) (h2 := h2) (ky := 3) X dL_law_926 ca_X13_letters ci_X13_letters cs_X13_letters ml_L_123 (Nat.le_of_ble_eq_true rfl) ly155 rfl rfl (m_X13_letters _ _ _ q2) rfl rfl (Nat.le_of_ble_eq_true rfl) rfl rfl ?_ hi5
  refine L_lcmp (pc := 929) X dL_law_929 ?_
  exact L_if_eq (pc := 930) X dL_law_930 rfl (fun _ => K h2 hI2) (fun z => absurd (lcmp_self v) z)
theorem lc_find (X : OKL κ) (hi5 : i ≤ 1000) (hj : j + 6 ≤ kLn κ) (hL : kLn κ < 2147483648) (hI : Inv h) (K : ∀ h2, Inv h2 → JL κ 1448 (LL j) [] h2 o i) : JL κ 935 (LL j) [] h o i := by
  obtain ⟨v, h1, h2, q1, q2, hI2⟩ := st_find (kXs κ (j + 1)) hI
  refine L_aload_n (pc := 935) X (k := 1) (j := 3) (k' := 1) (x := 1) (by decide) rfl rfl dL_law_935 ?_
  refine L_arg (pc := 936) X (j := j) (k := 1) (n := 0) (z := 1) (x := 0) rfl ⟨4, rfl⟩ rfl (by omega) hL dL_law_936 dL_law_937 dL_law_939 dL_law_940 dL_law_941 ?_
  refine L_callV (pc := 942) (as := [.inl (kXs κ (j + 1))]) (st := []) (st2 := [.inl v]) (r1 := (some (.inl v), h1)) (h2 := h1) (ky := 408) X dL_law_942 ca_X12_find ci_X12_find cs_X12_find ml_L_124 (Nat.le_of_ble_eq_true rfl) ly1 rfl rfl (m_X12_find _ _ _ q1) rfl rfl (Nat.le_of_ble_eq_true rfl) rfl rfl ?_ hi5
  refine L_aload_n (pc := 945) X (k := 2) (j := 2) (k' := 2) (x := 155) (by decide) rfl rfl dL_law_945 ?_
  refine L_arg (pc := 946) X (j := j) (k := 1) (n := 0) (z := 1) (x := 0) rfl ⟨4, rfl⟩ rfl (by omega) hL dL_law_946 dL_law_947 dL_law_949 dL_law_950 dL_law_951 ?_
  refine L_callV (pc := 952) (as := [.inl (kXs κ (j + 1))]) (st := [.inl v]) (st2 := [.inl v, .inl v]) (r1 := (some (.inl v), h2)) (h2 := h2) (ky := 5) X dL_law_952 ca_X13_find_ ci_X13_find_ cs_X13_find_ ml_L_127 (Nat.le_of_ble_eq_true rfl) ly155 rfl rfl (m_X13_find_ _ _ _ q2) rfl rfl (Nat.le_of_ble_eq_true rfl) rfl rfl ?_ hi5
  exact L_icmp_eq (pc := 955) X dL_law_955 rfl (fun _ => K h2 hI2) (fun z => absurd rfl z)
theorem lc_cheapest (X : OKL κ) (hi5 : i ≤ 1000) (hj : j + 6 ≤ kLn κ) (hL : kLn κ < 2147483648) (hI : Inv h) (K : ∀ h2, Inv h2 → JL κ 1448 (LL j) [] h2 o i) : JL κ 960 (LL j) [] h o i := by
  obtain ⟨v, h1, h2, q1, q2, hI2⟩ := st_cheapest (kXs κ (j + 1)) hI
  refine L_aload_n (pc := 960) X (k := 1) (j := 3) (k' := 1) (x := 1) (by decide) rfl rfl dL_law_960 ?_
  refine L_arg (pc := 961) X (j := j) (k := 1) (n := 0) (z := 1) (x := 0) rfl ⟨4, rfl⟩ rfl (by omega) hL dL_law_961 dL_law_962 dL_law_964 dL_law_965 dL_law_966 ?_
  refine L_callV (pc := 967) (as := [.inl (kXs κ (j + 1))]) (st := []) (st2 := [.inl v]) (r1 := (some (.inl v), h1)) (h2 := h1) (ky := 407) X dL_law_967 ca_X12_cheapest ci_X12_cheapest cs_X12_cheapest ml_L_128 (Nat.le_of_ble_eq_true rfl) ly1 rfl rfl (m_X12_cheapest _ _ _ q1) rfl rfl (Nat.le_of_ble_eq_true rfl) rfl rfl ?_ hi5
  refine L_aload_n (pc := 970) X (k := 2) (j := 2) (k' := 2) (x := 155) (by decide) rfl rfl dL_law_970 ?_
  refine L_arg (pc := 971) X (j := j) (k := 1) (n := 0) (z := 1) (x := 0) rfl ⟨4, rfl⟩ rfl (by omega) hL dL_law_971 dL_law_972 dL_law_974 dL_law_975 dL_law_976 ?_
  refine L_callV (pc := 977) (as := [.inl (kXs κ (j + 1))]) (st := [.inl v]) (st2 := [.inl v, .inl v]) (r1 := (some (.inl v), h2)) (h2 := h2) (ky := 4) X dL_law_977 ca_X13_cheapest ci_X13_cheapest cs_X13_cheapest ml_L_131 (Nat.le_of_ble_eq_true rfl) ly155 rfl rfl (m_X13_cheapest _ _ _ q2) rfl rfl (Nat.le_of_ble_eq_true rfl) rfl rfl ?_ hi5
  exact L_icmp_eq (pc := 980) X dL_law_980 rfl (fun _ => K h2 hI2) (fun z => absurd rfl z)
theorem lc_verse (X : OKL κ) (hi5 : i ≤ 1000) (hj : j + 6 ≤ kLn κ) (hL : kLn κ < 2147483648) (hI : Inv h) (K : ∀ h2, Inv h2 → JL κ 1448 (LL j) [] h2 o i) : JL κ 985 (LL j) [] h o i := by
  obtain ⟨v, h1, h2, q1, q2, hI2⟩ := st_verse (kXs κ (j + 1)) (kXs κ (j + 2)) hI
  refine L_aload_n (pc := 985) X (k := 1) (j := 3) (k' := 1) (x := 1) (by decide) rfl rfl dL_law_985 ?_
  refine L_arg (pc := 986) X (j := j) (k := 1) (n := 0) (z := 1) (x := 0) rfl ⟨4, rfl⟩ rfl (by omega) hL dL_law_986 dL_law_987 dL_law_989 dL_law_990 dL_law_991 ?_
  refine L_arg (pc := 992) X (j := j) (k := 2) (n := 0) (z := 2) (x := 0) rfl ⟨4, rfl⟩ rfl (by omega) hL dL_law_992 dL_law_993 dL_law_995 dL_law_996 dL_law_997 ?_
  refine L_callV (pc := 998) (as := [.inl (kXs κ (j + 1)), .inl (kXs κ (j + 2))]) (st := []) (st2 := [.inl v]) (r1 := (some (.inl v), h1)) (h2 := h1) (ky := 408) X dL_law_998 ca_X12_verse ci_X12_verse cs_X12_verse ml_L_132 (Nat.le_of_ble_eq_true rfl) ly1 rfl rfl (m_X12_verse _ _ _ _ q1) rfl rfl (Nat.le_of_ble_eq_true rfl) rfl rfl ?_ hi5
  refine L_aload_n (pc := 1001) X (k := 2) (j := 2) (k' := 2) (x := 155) (by decide) rfl rfl dL_law_1001 ?_
  refine L_arg (pc := 1002) X (j := j) (k := 1) (n := 0) (z := 1) (x := 0) rfl ⟨4, rfl⟩ rfl (by omega) hL dL_law_1002 dL_law_1003 dL_law_1005 dL_law_1006 dL_law_1007 ?_
  refine L_arg (pc := 1008) X (j := j) (k := 2) (n := 0) (z := 2) (x := 0) rfl ⟨4, rfl⟩ rfl (by omega) hL dL_law_1008 dL_law_1009 dL_law_1011 dL_law_1012 dL_law_1013 ?_
  refine L_callV (pc := 1014) (as := [.inl (kXs κ (j + 1)), .inl (kXs κ (j + 2))]) (st := [.inl v]) (st2 := [.inl v, .inl v]) (r1 := (some (.inl v), h2)) (h2 := h2) (ky := 5) X dL_law_1014 ca_X13_verse ci_X13_verse cs_X13_verse ml_L_135 (Nat.le_of_ble_eq_true rfl) ly155 rfl rfl (m_X13_verse _ _ _ _ q2) rfl rfl (Nat.le_of_ble_eq_true rfl) rfl rfl ?_ hi5
  exact L_icmp_eq (pc := 1017) X dL_law_1017 rfl (fun _ => K h2 hI2) (fun z => absurd rfl z)
theorem lc_longer (X : OKL κ) (hi5 : i ≤ 1000) (hj : j + 6 ≤ kLn κ) (hL : kLn κ < 2147483648) (hI : Inv h) (K : ∀ h2, Inv h2 → JL κ 1448 (LL j) [] h2 o i) : JL κ 1022 (LL j) [] h o i := by
  obtain ⟨v, h1, h2, q1, q2, hI2⟩ := st_longer (kXs κ (j + 1)) (kXs κ (j + 2)) hI
  refine L_aload_n (pc := 1022) X (k := 1) (j := 3) (k' := 1) (x := 1) (by decide) rfl rfl dL_law_1022 ?_
  refine L_arg (pc := 1023) X (j := j) (k := 1) (n := 0) (z := 1) (x := 0) rfl ⟨4, rfl⟩ rfl (by omega) hL dL_law_1023 dL_law_1024 dL_law_1026 dL_law_1027 dL_law_1028 ?_
  refine L_arg (pc := 1029) X (j := j) (k := 2) (n := 0) (z := 2) (x := 0) rfl ⟨4, rfl⟩ rfl (by omega) hL dL_law_1029 dL_law_1030 dL_law_1032 dL_law_1033 dL_law_1034 ?_
  refine L_callV (pc := 1035) (as := [.inl (kXs κ (j + 1)), .inl (kXs κ (j + 2))]) (st := []) (st2 := [.inl v]) (r1 := (some (.inl v), h1)) (h2 := h1) (ky := 407) X dL_law_1035 ca_X12_longer ci_X12_longer cs_X12_longer ml_L_136 (Nat.le_of_ble_eq_true rfl) ly1 rfl rfl (m_X12_longer _ _ _ _ q1) rfl rfl (Nat.le_of_ble_eq_true rfl) rfl rfl ?_ hi5
  refine L_aload_n (pc := 1038) X (k := 2) (j := 2) (k' := 2) (x := 155) (by decide) rfl rfl dL_law_1038 ?_
  refine L_arg (pc := 1039) X (j := j) (k := 1) (n := 0) (z := 1) (x := 0) rfl ⟨4, rfl⟩ rfl (by omega) hL dL_law_1039 dL_law_1040 dL_law_1042 dL_law_1043 dL_law_1044 ?_
  refine L_arg (pc := 1045) X (j := j) (k := 2) (n := 0) (z := 2) (x := 0) rfl ⟨4, rfl⟩ rfl (by omega) hL dL_law_1045 dL_law_1046 dL_law_1048 dL_law_1049 dL_law_1050 ?_
  refine L_callV (pc := 1051) (as := [.inl (kXs κ (j + 1)), .inl (kXs κ (j + 2))]) (st := [.inl v]) (st2 := [.inl v, .inl v]) (r1 := (some (.inl v), h2)) (h2 := h2) (ky := 5) X dL_law_1051 ca_X13_longer ci_X13_longer cs_X13_longer ml_L_139 (Nat.le_of_ble_eq_true rfl) ly155 rfl rfl (m_X13_longer _ _ _ _ q2) rfl rfl (Nat.le_of_ble_eq_true rfl) rfl rfl ?_ hi5
  exact L_icmp_eq (pc := 1054) X dL_law_1054 rfl (fun _ => K h2 hI2) (fun z => absurd rfl z)
theorem lc_foundAt (X : OKL κ) (hi5 : i ≤ 1000) (hj : j + 6 ≤ kLn κ) (hL : kLn κ < 2147483648) (hI : Inv h) (K : ∀ h2, Inv h2 → JL κ 1448 (LL j) [] h2 o i) : JL κ 1059 (LL j) [] h o i := by
  obtain ⟨v, h1, h2, q1, q2, hI2⟩ := st_foundAt (kXs κ (j + 1)) hI
  refine L_aload_n (pc := 1059) X (k := 1) (j := 3) (k' := 1) (x := 1) (by decide) rfl rfl dL_law_1059 ?_
  refine L_arg (pc := 1060) X (j := j) (k := 1) (n := 0) (z := 1) (x := 0) rfl ⟨4, rfl⟩ rfl (by omega) hL dL_law_1060 dL_law_1061 dL_law_1063 dL_law_1064 dL_law_1065 ?_
  refine L_callV (pc := 1066) (as := [.inl (kXs κ (j + 1))]) (st := []) (st2 := [.inl v]) (r1 := (some (.inl v), h1)) (h2 := h1) (ky := 2) X dL_law_1066 ca_X12_foundAt ci_X12_foundAt cs_X12_foundAt ml_L_140 (Nat.le_of_ble_eq_true rfl) ly1 rfl rfl (m_X12_foundAt _ _ _ q1) rfl rfl (Nat.le_of_ble_eq_true rfl) rfl rfl ?_ hi5
  refine L_aload_n (pc := 1069) X (k := 2) (j := 2) (k' := 2) (x := 155) (by decide) rfl rfl dL_law_1069 ?_
  refine L_arg (pc := 1070) X (j := j) (k := 1) (n := 0) (z := 1) (x := 0) rfl ⟨4, rfl⟩ rfl (by omega) hL dL_law_1070 dL_law_1071 dL_law_1073 dL_law_1074 dL_law_1075 ?_
  refine L_callV (pc := 1076) (as := [.inl (kXs κ (j + 1))]) (st := [.inl v]) (st2 := [.inl v, .inl v]) (r1 := (some (.inl v), h2)) (h2 := h2) (ky := 2) X dL_law_1076 ca_X13_foundAt ci_X13_foundAt cs_X13_foundAt ml_L_143 (Nat.le_of_ble_eq_true rfl) ly155 rfl rfl (m_X13_foundAt _ _ _ q2) rfl rfl (Nat.le_of_ble_eq_true rfl) rfl rfl ?_ hi5
  exact L_icmp_eq (pc := 1079) X dL_law_1079 rfl (fun _ => K h2 hI2) (fun z => absurd rfl z)
theorem lc_sayable (X : OKL κ) (hi5 : i ≤ 1000) (hj : j + 6 ≤ kLn κ) (hL : kLn κ < 2147483648) (hI : Inv h) (K : ∀ h2, Inv h2 → JL κ 1448 (LL j) [] h2 o i) : JL κ 1084 (LL j) [] h o i := by
  obtain ⟨v, h1, h2, q1, q2, hI2⟩ := st_sayable (kXs κ (j + 1)) hI
  refine L_aload_n (pc := 1084) X (k := 1) (j := 3) (k' := 1) (x := 1) (by decide) rfl rfl dL_law_1084 ?_
  refine L_arg (pc := 1085) X (j := j) (k := 1) (n := 0) (z := 1) (x := 0) rfl ⟨4, rfl⟩ rfl (by omega) hL dL_law_1085 dL_law_1086 dL_law_1088 dL_law_1089 dL_law_1090 ?_
  refine L_callV (pc := 1091) (as := [.inl (kXs κ (j + 1))]) (st := []) (st2 := [.inl v]) (r1 := (some (.inl v), h1)) (h2 := h1) (ky := 407) X dL_law_1091 ca_X12_sayable ci_X12_sayable cs_X12_sayable ml_L_144 (Nat.le_of_ble_eq_true rfl) ly1 rfl rfl (m_X12_sayable _ _ _ q1) rfl rfl (Nat.le_of_ble_eq_true rfl) rfl rfl ?_ hi5
  refine L_aload_n (pc := 1094) X (k := 2) (j := 2) (k' := 2) (x := 155) (by decide) rfl rfl dL_law_1094 ?_
  refine L_arg (pc := 1095) X (j := j) (k := 1) (n := 0) (z := 1) (x := 0) rfl ⟨4, rfl⟩ rfl (by omega) hL dL_law_1095 dL_law_1096 dL_law_1098 dL_law_1099 dL_law_1100 ?_
  refine L_callV (pc := 1101) (as := [.inl (kXs κ (j + 1))]) (st := [.inl v]) (st2 := [.inl v, .inl v]) (r1 := (some (.inl v), h2)) (h2 := h2) (ky := 5) X dL_law_1101 ca_X13_sayable ci_X13_sayable cs_X13_sayable ml_L_147 (Nat.le_of_ble_eq_true rfl) ly155 rfl rfl (m_X13_sayable _ _ _ q2) rfl rfl (Nat.le_of_ble_eq_true rfl) rfl rfl ?_ hi5
  exact L_icmp_eq (pc := 1104) X dL_law_1104 rfl (fun _ => K h2 hI2) (fun z => absurd rfl z)
theorem lc_link (X : OKL κ) (hi5 : i ≤ 1000) (hj : j + 6 ≤ kLn κ) (hL : kLn κ < 2147483648) (hI : Inv h) (K : ∀ h2, Inv h2 → JL κ 1448 (LL j) [] h2 o i) : JL κ 1109 (LL j) [] h o i := by
  obtain ⟨v, h1, h2, q1, q2, hI2⟩ := st_link (kXs κ (j + 1)) hI
  refine L_aload_n (pc := 1109) X (k := 1) (j := 3) (k' := 1) (x := 1) (by decide) rfl rfl dL_law_1109 ?_
  refine L_arg (pc := 1110) X (j := j) (k := 1) (n := 0) (z := 1) (x := 0) rfl ⟨4, rfl⟩ rfl (by omega) hL dL_law_1110 dL_law_1111 dL_law_1113 dL_law_1114 dL_law_1115 ?_
  refine L_callV (pc := 1116) (as := [.inl (kXs κ (j + 1))]) (st := []) (st2 := [.inl v]) (r1 := (some (.inl v), h1)) (h2 := h1) (ky := 408) X dL_law_1116 ca_X12_link ci_X12_link cs_X12_link ml_L_148 (Nat.le_of_ble_eq_true rfl) ly1 rfl rfl (m_X12_link _ _ _ q1) rfl rfl (Nat.le_of_ble_eq_true rfl) rfl rfl ?_ hi5
  refine L_aload_n (pc := 1119) X (k := 2) (j := 2) (k' := 2) (x := 155) (by decide) rfl rfl dL_law_1119 ?_
  refine L_arg (pc := 1120) X (j := j) (k := 1) (n := 0) (z := 1) (x := 0) rfl ⟨4, rfl⟩ rfl (by omega) hL dL_law_1120 dL_law_1121 dL_law_1123 dL_law_1124 dL_law_1125 ?_
  refine L_callV (pc := 1126) (as := [.inl (kXs κ (j + 1))]) (st := [.inl v]) (st2 := [.inl v, .inl v]) (r1 := (some (.inl v), h2)) (h2 := h2) (ky := 5) X dL_law_1126 ca_X13_link ci_X13_link cs_X13_link ml_L_151 (Nat.le_of_ble_eq_true rfl) ly155 rfl rfl (m_X13_link _ _ _ q2) rfl rfl (Nat.le_of_ble_eq_true rfl) rfl rfl ?_ hi5
  exact L_icmp_eq (pc := 1129) X dL_law_1129 rfl (fun _ => K h2 hI2) (fun z => absurd rfl z)
theorem lc_lend (X : OKL κ) (hi5 : i ≤ 1000) (hj : j + 6 ≤ kLn κ) (hL : kLn κ < 2147483648) (hI : Inv h) (K : ∀ h2, Inv h2 → JL κ 1448 (LL j) [] h2 o i) : JL κ 1134 (LL j) [] h o i := by
  obtain ⟨v, h1, h2, q1, q2, hI2⟩ := st_lend (kXs κ (j + 1)) hI
  refine L_aload_n (pc := 1134) X (k := 1) (j := 3) (k' := 1) (x := 1) (by decide) rfl rfl dL_law_1134 ?_
  refine L_arg (pc := 1135) X (j := j) (k := 1) (n := 0) (z := 1) (x := 0) rfl ⟨4, rfl⟩ rfl (by omega) hL dL_law_1135 dL_law_1136 dL_law_1138 dL_law_1139 dL_law_1140 ?_
  refine L_callV (pc := 1141) (as := [.inl (kXs κ (j + 1))]) (st := []) (st2 := [.inl v]) (r1 := (some (.inl v), h1)) (h2 := h1) (ky := 408) X dL_law_1141 ca_X12_lend ci_X12_lend cs_X12_lend ml_L_152 (Nat.le_of_ble_eq_true rfl) ly1 rfl rfl (m_X12_lend _ _ _ q1) rfl rfl (Nat.le_of_ble_eq_true rfl) rfl rfl ?_ hi5
  refine L_aload_n (pc := 1144) X (k := 2) (j := 2) (k' := 2) (x := 155) (by decide) rfl rfl dL_law_1144 ?_
  refine L_arg (pc := 1145) X (j := j) (k := 1) (n := 0) (z := 1) (x := 0) rfl ⟨4, rfl⟩ rfl (by omega) hL dL_law_1145 dL_law_1146 dL_law_1148 dL_law_1149 dL_law_1150 ?_
  refine L_callV (pc := 1151) (as := [.inl (kXs κ (j + 1))]) (st := [.inl v]) (st2 := [.inl v, .inl v]) (r1 := (some (.inl v), h2)) (h2 := h2) (ky := 5) X dL_law_1151 ca_X13_lend ci_X13_lend cs_X13_lend ml_L_155 (Nat.le_of_ble_eq_true rfl) ly155 rfl rfl (m_X13_lend _ _ _ q2) rfl rfl (Nat.le_of_ble_eq_true rfl) rfl rfl ?_ hi5
  exact L_icmp_eq (pc := 1154) X dL_law_1154 rfl (fun _ => K h2 hI2) (fun z => absurd rfl z)
theorem lc_other (X : OKL κ) (hi5 : i ≤ 1000) (hj : j + 6 ≤ kLn κ) (hL : kLn κ < 2147483648) (hI : Inv h) (K : ∀ h2, Inv h2 → JL κ 1448 (LL j) [] h2 o i) : JL κ 1159 (LL j) [] h o i := by
  obtain ⟨v, h1, h2, q1, q2, hI2⟩ := st_other (kXs κ (j + 1)) (kXs κ (j + 2)) (kXs κ (j + 3)) (kXs κ (j + 4)) hI
  refine L_aload_n (pc := 1159) X (k := 1) (j := 3) (k' := 1) (x := 1) (by decide) rfl rfl dL_law_1159 ?_
  refine L_arg (pc := 1160) X (j := j) (k := 1) (n := 0) (z := 1) (x := 0) rfl ⟨4, rfl⟩ rfl (by omega) hL dL_law_1160 dL_law_1161 dL_law_1163 dL_law_1164 dL_law_1165 ?_
  refine L_arg (pc := 1166) X (j := j) (k := 2) (n := 0) (z := 2) (x := 0) rfl ⟨4, rfl⟩ rfl (by omega) hL dL_law_1166 dL_law_1167 dL_law_1169 dL_law_1170 dL_law_1171 ?_
  refine L_arg (pc := 1172) X (j := j) (k := 3) (n := 0) (z := 3) (x := 0) rfl ⟨4, rfl⟩ rfl (by omega) hL dL_law_1172 dL_law_1173 dL_law_1175 dL_law_1176 dL_law_1177 ?_
  refine L_arg (pc := 1178) X (j := j) (k := 4) (n := 0) (z := 4) (x := 0) rfl ⟨4, rfl⟩ rfl (by omega) hL dL_law_1178 dL_law_1179 dL_law_1181 dL_law_1182 dL_law_1183 ?_
  refine L_callV (pc := 1184) (as := [.inl (kXs κ (j + 1)), .inl (kXs κ (j + 2)), .inl (kXs κ (j + 3)), .inl (kXs κ (j + 4))]) (st := []) (st2 := [.inl v]) (r1 := (some (.inl v), h1)) (h2 := h1) (ky := 408) X dL_law_1184 ca_X12_other ci_X12_other cs_X12_other ml_L_156 (Nat.le_of_ble_eq_true rfl) ly1 rfl rfl (m_X12_other _ _ _ _ _ _ q1) rfl rfl (Nat.le_of_ble_eq_true rfl) rfl rfl ?_ hi5
  refine L_aload_n (pc := 1187) X (k := 2) (j := 2) (k' := 2) (x := 155) (by decide) rfl rfl dL_law_1187 ?_
  refine L_arg (pc := 1188) X (j := j) (k := 1) (n := 0) (z := 1) (x := 0) rfl ⟨4, rfl⟩ rfl (by omega) hL dL_law_1188 dL_law_1189 dL_law_1191 dL_law_1192 dL_law_1193 ?_
  refine L_arg (pc := 1194) X (j := j) (k := 2) (n := 0) (z := 2) (x := 0) rfl ⟨4, rfl⟩ rfl (by omega) hL dL_law_1194 dL_law_1195 dL_law_1197 dL_law_1198 dL_law_1199 ?_
  refine L_arg (pc := 1200) X (j := j) (k := 3) (n := 0) (z := 3) (x := 0) rfl ⟨4, rfl⟩ rfl (by omega) hL dL_law_1200 dL_law_1201 dL_law_1203 dL_law_1204 dL_law_1205 ?_
  refine L_arg (pc := 1206) X (j := j) (k := 4) (n := 0) (z := 4) (x := 0) rfl ⟨4, rfl⟩ rfl (by omega) hL dL_law_1206 dL_law_1207 dL_law_1209 dL_law_1210 dL_law_1211 ?_
  refine L_callV (pc := 1212) (as := [.inl (kXs κ (j + 1)), .inl (kXs κ (j + 2)), .inl (kXs κ (j + 3)), .inl (kXs κ (j + 4))]) (st := [.inl v]) (st2 := [.inl v, .inl v]) (r1 := (some (.inl v), h2)) (h2 := h2) (ky := 5) X dL_law_1212 ca_X13_other ci_X13_other cs_X13_other ml_L_160 (Nat.le_of_ble_eq_true rfl) ly155 rfl rfl (m_X13_other _ _ _ _ _ _ q2) rfl rfl (Nat.le_of_ble_eq_true rfl) rfl rfl ?_ hi5
  exact L_icmp_eq (pc := 1215) X dL_law_1215 rfl (fun _ => K h2 hI2) (fun z => absurd rfl z)
theorem lc_mend (X : OKL κ) (hi5 : i ≤ 1000) (hj : j + 6 ≤ kLn κ) (hL : kLn κ < 2147483648) (hI : Inv h) (K : ∀ h2, Inv h2 → JL κ 1448 (LL j) [] h2 o i) : JL κ 1220 (LL j) [] h o i := by
  obtain ⟨v, h1, h2, q1, q2, hI2⟩ := st_mend  hI
  refine L_aload_n (pc := 1220) X (k := 1) (j := 3) (k' := 1) (x := 1) (by decide) rfl rfl dL_law_1220 ?_
  refine L_callV (pc := 1221) (as := []) (st := []) (st2 := [.inl v]) (r1 := (some (.inl v), h1)) (h2 := h1) (ky := 407) X dL_law_1221 ca_X12_mend ci_X12_mend cs_X12_mend ml_L_161 (Nat.le_of_ble_eq_true rfl) ly1 rfl rfl (m_X12_mend _ _ q1) rfl rfl (Nat.le_of_ble_eq_true rfl) rfl rfl ?_ hi5
  refine L_aload_n (pc := 1224) X (k := 2) (j := 2) (k' := 2) (x := 155) (by decide) rfl rfl dL_law_1224 ?_
  refine L_callV (pc := 1225) (as := []) (st := [.inl v]) (st2 := [.inl v, .inl v]) (r1 := (some (.inl v), h2)) (h2 := h2) (ky := 4) X dL_law_1225 ca_X13_mend ci_X13_mend cs_X13_mend ml_L_164 (Nat.le_of_ble_eq_true rfl) ly155 rfl rfl (m_X13_mend _ _ q2) rfl rfl (Nat.le_of_ble_eq_true rfl) rfl rfl ?_ hi5
  exact L_icmp_eq (pc := 1228) X dL_law_1228 rfl (fun _ => K h2 hI2) (fun z => absurd rfl z)
theorem lc_torn (X : OKL κ) (hi5 : i ≤ 1000) (hj : j + 6 ≤ kLn κ) (hL : kLn κ < 2147483648) (hI : Inv h) (K : ∀ h2, Inv h2 → JL κ 1448 (LL j) [] h2 o i) : JL κ 1233 (LL j) [] h o i := by
  obtain ⟨v, h1, h2, q1, q2, hI2⟩ := st_torn (kXs κ (j + 1)) (kXs κ (j + 2)) hI
  refine L_aload_n (pc := 1233) X (k := 1) (j := 3) (k' := 1) (x := 1) (by decide) rfl rfl dL_law_1233 ?_
  refine L_arg (pc := 1234) X (j := j) (k := 1) (n := 0) (z := 1) (x := 0) rfl ⟨4, rfl⟩ rfl (by omega) hL dL_law_1234 dL_law_1235 dL_law_1237 dL_law_1238 dL_law_1239 ?_
  refine L_arg (pc := 1240) X (j := j) (k := 2) (n := 0) (z := 2) (x := 0) rfl ⟨4, rfl⟩ rfl (by omega) hL dL_law_1240 dL_law_1241 dL_law_1243 dL_law_1244 dL_law_1245 ?_
  refine L_callV (pc := 1246) (as := [.inl (kXs κ (j + 1)), .inl (kXs κ (j + 2))]) (st := []) (st2 := [.inr (.inl v)]) (r1 := (some (.inr (.inl v)), h1)) (h2 := h1) (ky := 6) X dL_law_1246 ca_X12_torn ci_X12_torn cs_X12_torn ml_L_165 (Nat.le_of_ble_eq_true rfl) ly1 rfl rfl (m_X12_torn _ _ _ _ q1) rfl rfl (Nat.le_of_ble_eq_true rfl) rfl rfl ?_ hi5
  refine L_aload_n (pc := 1249) X (k := 2) (j := 2) (k' := 2) (x := 155) (by decide) rfl rfl dL_law_1249 ?_
  refine L_arg (pc := 1250) X (j := j) (k := 1) (n := 0) (z := 1) (x := 0) rfl ⟨4, rfl⟩ rfl (by omega) hL dL_law_1250 dL_law_1251 dL_law_1253 dL_law_1254 dL_law_1255 ?_
  refine L_arg (pc := 1256) X (j := j) (k := 2) (n := 0) (z := 2) (x := 0) rfl ⟨4, rfl⟩ rfl (by omega) hL dL_law_1256 dL_law_1257 dL_law_1259 dL_law_1260 dL_law_1261 ?_
  refine L_callV (pc := 1262) (as := [.inl (kXs κ (j + 1)), .inl (kXs κ (j + 2))]) (st := [.inr (.inl v)]) (st2 := [.inr (.inl v), .inr (.inl v)]) (r1 := (some (.inr (.inl v)), h2)) (h2 := h2) (ky := 4) X dL_law_1262 ca_X13_torn ci_X13_torn cs_X13_torn ml_L_169 (Nat.le_of_ble_eq_true rfl) ly155 rfl rfl (m_X13_torn _ _ _ _ q2) rfl rfl (Nat.le_of_ble_eq_true rfl) rfl rfl ?_ hi5
  refine L_lcmp (pc := 1265) X dL_law_1265 ?_
  exact L_if_eq (pc := 1266) X dL_law_1266 rfl (fun _ => K h2 hI2) (fun z => absurd (lcmp_self v) z)
theorem lc_sure (X : OKL κ) (hi5 : i ≤ 1000) (hj : j + 6 ≤ kLn κ) (hL : kLn κ < 2147483648) (hI : Inv h) (K : ∀ h2, Inv h2 → JL κ 1448 (LL j) [] h2 o i) : JL κ 1271 (LL j) [] h o i := by
  obtain ⟨v, h1, h2, q1, q2, hI2⟩ := st_sure (kXs κ (j + 1)) hI
  refine L_aload_n (pc := 1271) X (k := 1) (j := 3) (k' := 1) (x := 1) (by decide) rfl rfl dL_law_1271 ?_
  refine L_arg (pc := 1272) X (j := j) (k := 1) (n := 0) (z := 1) (x := 0) rfl ⟨4, rfl⟩ rfl (by omega) hL dL_law_1272 dL_law_1273 dL_law_1275 dL_law_1276 dL_law_1277 ?_
  refine L_callV (pc := 1278) (as := [.inl (kXs κ (j + 1))]) (st := []) (st2 := [.inl v]) (r1 := (some (.inl v), h1)) (h2 := h1) (ky := 1) X dL_law_1278 ca_X12_sure ci_X12_sure cs_X12_sure ml_L_170 (Nat.le_of_ble_eq_true rfl) ly1 rfl rfl (m_X12_sure _ _ _ q1) rfl rfl (Nat.le_of_ble_eq_true rfl) rfl rfl ?_ hi5
  refine L_aload_n (pc := 1281) X (k := 2) (j := 2) (k' := 2) (x := 155) (by decide) rfl rfl dL_law_1281 ?_
  refine L_arg (pc := 1282) X (j := j) (k := 1) (n := 0) (z := 1) (x := 0) rfl ⟨4, rfl⟩ rfl (by omega) hL dL_law_1282 dL_law_1283 dL_law_1285 dL_law_1286 dL_law_1287 ?_
  refine L_callV (pc := 1288) (as := [.inl (kXs κ (j + 1))]) (st := [.inl v]) (st2 := [.inl v, .inl v]) (r1 := (some (.inl v), h2)) (h2 := h2) (ky := 2) X dL_law_1288 ca_X13_sure ci_X13_sure cs_X13_sure ml_L_173 (Nat.le_of_ble_eq_true rfl) ly155 rfl rfl (m_X13_sure _ _ _ q2) rfl rfl (Nat.le_of_ble_eq_true rfl) rfl rfl ?_ hi5
  exact L_icmp_eq (pc := 1291) X dL_law_1291 rfl (fun _ => K h2 hI2) (fun z => absurd rfl z)
theorem lc_likeliest (X : OKL κ) (hi5 : i ≤ 1000) (hj : j + 6 ≤ kLn κ) (hL : kLn κ < 2147483648) (hI : Inv h) (K : ∀ h2, Inv h2 → JL κ 1448 (LL j) [] h2 o i) : JL κ 1296 (LL j) [] h o i := by
  obtain ⟨v, h1, h2, q1, q2, hI2⟩ := st_likeliest  hI
  refine L_aload_n (pc := 1296) X (k := 1) (j := 3) (k' := 1) (x := 1) (by decide) rfl rfl dL_law_1296 ?_
  refine L_callV (pc := 1297) (as := []) (st := []) (st2 := [.inr (.inl v)]) (r1 := (some (.inr (.inl v)), h1)) (h2 := h1) (ky := 4) X dL_law_1297 ca_X12_likeliest ci_X12_likeliest cs_X12_likeliest ml_L_174 (Nat.le_of_ble_eq_true rfl) ly1 rfl rfl (m_X12_likeliest _ _ q1) rfl rfl (Nat.le_of_ble_eq_true rfl) rfl rfl ?_ hi5
  refine L_aload_n (pc := 1300) X (k := 2) (j := 2) (k' := 2) (x := 155) (by decide) rfl rfl dL_law_1300 ?_
  refine L_callV (pc := 1301) (as := []) (st := [.inr (.inl v)]) (st2 := [.inr (.inl v), .inr (.inl v)]) (r1 := (some (.inr (.inl v)), h2)) (h2 := h2) (ky := 1) X dL_law_1301 ca_X13_likeliest ci_X13_likeliest cs_X13_likeliest ml_L_178 (Nat.le_of_ble_eq_true rfl) ly155 rfl rfl (m_X13_likeliest _ _ q2) rfl rfl (Nat.le_of_ble_eq_true rfl) rfl rfl ?_ hi5
  refine L_lcmp (pc := 1304) X dL_law_1304 ?_
  exact L_if_eq (pc := 1305) X dL_law_1305 rfl (fun _ => K h2 hI2) (fun z => absurd (lcmp_self v) z)
theorem lc_add (X : OKL κ) (hi5 : i ≤ 1000) (hj : j + 6 ≤ kLn κ) (hL : kLn κ < 2147483648) (hI : Inv h) (K : ∀ h2, Inv h2 → JL κ 1448 (LL j) [] h2 o i) : JL κ 1310 (LL j) [] h o i := by
  obtain ⟨v, h1, h2, q1, q2, hI2⟩ := st_add  hI
  refine L_aload_n (pc := 1310) X (k := 1) (j := 3) (k' := 1) (x := 1) (by decide) rfl rfl dL_law_1310 ?_
  refine L_callV (pc := 1311) (as := []) (st := []) (st2 := [.inl v]) (r1 := (some (.inl v), h1)) (h2 := h1) (ky := 4) X dL_law_1311 ca_X12_add ci_X12_add cs_X12_add ml_L_179 (Nat.le_of_ble_eq_true rfl) ly1 rfl rfl (m_X12_add _ _ q1) rfl rfl (Nat.le_of_ble_eq_true rfl) rfl rfl ?_ hi5
  refine L_aload_n (pc := 1314) X (k := 2) (j := 2) (k' := 2) (x := 155) (by decide) rfl rfl dL_law_1314 ?_
  refine L_callV (pc := 1315) (as := []) (st := [.inl v]) (st2 := [.inl v, .inl v]) (r1 := (some (.inl v), h2)) (h2 := h2) (ky := 1) X dL_law_1315 ca_X13_add ci_X13_add cs_X13_add ml_L_182 (Nat.le_of_ble_eq_true rfl) ly155 rfl rfl (m_X13_add _ _ q2) rfl rfl (Nat.le_of_ble_eq_true rfl) rfl rfl ?_ hi5
  exact L_icmp_eq (pc := 1318) X dL_law_1318 rfl (fun _ => K h2 hI2) (fun z => absurd rfl z)
theorem lc_take (X : OKL κ) (hi5 : i ≤ 1000) (hj : j + 6 ≤ kLn κ) (hL : kLn κ < 2147483648) (hI : Inv h) (K : ∀ h2, Inv h2 → JL κ 1448 (LL j) [] h2 o i) : JL κ 1323 (LL j) [] h o i := by
  obtain ⟨v, h1, h2, q1, q2, hI2⟩ := st_take (kXs κ (j + 1)) hI
  refine L_aload_n (pc := 1323) X (k := 1) (j := 3) (k' := 1) (x := 1) (by decide) rfl rfl dL_law_1323 ?_
  refine L_arg (pc := 1324) X (j := j) (k := 1) (n := 0) (z := 1) (x := 0) rfl ⟨4, rfl⟩ rfl (by omega) hL dL_law_1324 dL_law_1325 dL_law_1327 dL_law_1328 dL_law_1329 ?_
  refine L_callV (pc := 1330) (as := [.inl (kXs κ (j + 1))]) (st := []) (st2 := [.inl v]) (r1 := (some (.inl v), h1)) (h2 := h1) (ky := 4) X dL_law_1330 ca_X12_take ci_X12_take cs_X12_take ml_L_183 (Nat.le_of_ble_eq_true rfl) ly1 rfl rfl (m_X12_take _ _ _ q1) rfl rfl (Nat.le_of_ble_eq_true rfl) rfl rfl ?_ hi5
  refine L_aload_n (pc := 1333) X (k := 2) (j := 2) (k' := 2) (x := 155) (by decide) rfl rfl dL_law_1333 ?_
  refine L_arg (pc := 1334) X (j := j) (k := 1) (n := 0) (z := 1) (x := 0) rfl ⟨4, rfl⟩ rfl (by omega) hL dL_law_1334 dL_law_1335 dL_law_1337 dL_law_1338 dL_law_1339 ?_
  refine L_callV (pc := 1340) (as := [.inl (kXs κ (j + 1))]) (st := [.inl v]) (st2 := [.inl v, .inl v]) (r1 := (some (.inl v), h2)) (h2 := h2) (ky := 2) X dL_law_1340 ca_X13_take ci_X13_take cs_X13_take ml_L_186 (Nat.le_of_ble_eq_true rfl) ly155 rfl rfl (m_X13_take _ _ _ q2) rfl rfl (Nat.le_of_ble_eq_true rfl) rfl rfl ?_ hi5
  exact L_icmp_eq (pc := 1343) X dL_law_1343 rfl (fun _ => K h2 hI2) (fun z => absurd rfl z)
theorem lc_book (X : OKL κ) (hi5 : i ≤ 1000) (hj : j + 6 ≤ kLn κ) (hL : kLn κ < 2147483648) (hI : Inv h) (K : ∀ h2, Inv h2 → JL κ 1448 (LL j) [] h2 o i) : JL κ 1348 (LL j) [] h o i := by
  obtain ⟨v, h1, h2, q1, q2, hI2⟩ := st_book (kXs κ (j + 1)) hI
  refine L_aload_n (pc := 1348) X (k := 1) (j := 3) (k' := 1) (x := 1) (by decide) rfl rfl dL_law_1348 ?_
  refine L_arg (pc := 1349) X (j := j) (k := 1) (n := 0) (z := 1) (x := 0) rfl ⟨4, rfl⟩ rfl (by omega) hL dL_law_1349 dL_law_1350 dL_law_1352 dL_law_1353 dL_law_1354 ?_
  refine L_callV (pc := 1355) (as := [.inl (kXs κ (j + 1))]) (st := []) (st2 := [.inl v]) (r1 := (some (.inl v), h1)) (h2 := h1) (ky := 5) X dL_law_1355 ca_X12_book ci_X12_book cs_X12_book ml_L_187 (Nat.le_of_ble_eq_true rfl) ly1 rfl rfl (m_X12_book _ _ _ q1) rfl rfl (Nat.le_of_ble_eq_true rfl) rfl rfl ?_ hi5
  refine L_aload_n (pc := 1358) X (k := 2) (j := 2) (k' := 2) (x := 155) (by decide) rfl rfl dL_law_1358 ?_
  refine L_arg (pc := 1359) X (j := j) (k := 1) (n := 0) (z := 1) (x := 0) rfl ⟨4, rfl⟩ rfl (by omega) hL dL_law_1359 dL_law_1360 dL_law_1362 dL_law_1363 dL_law_1364 ?_
  refine L_callV (pc := 1365) (as := [.inl (kXs κ (j + 1))]) (st := [.inl v]) (st2 := [.inl v, .inl v]) (r1 := (some (.inl v), h2)) (h2 := h2) (ky := 3) X dL_law_1365 ca_X13_book ci_X13_book cs_X13_book ml_L_190 (Nat.le_of_ble_eq_true rfl) ly155 rfl rfl (m_X13_book _ _ _ q2) rfl rfl (Nat.le_of_ble_eq_true rfl) rfl rfl ?_ hi5
  exact L_icmp_eq (pc := 1368) X dL_law_1368 rfl (fun _ => K h2 hI2) (fun z => absurd rfl z)
theorem lc_image (X : OKL κ) (hi5 : i ≤ 1000) (hj : j + 6 ≤ kLn κ) (hL : kLn κ < 2147483648) (hI : Inv h) (K : ∀ h2, Inv h2 → JL κ 1448 (LL j) [] h2 o i) : JL κ 1373 (LL j) [] h o i := by
  obtain ⟨v, h1, h2, q1, q2, hI2⟩ := st_image (kXs κ (j + 1)) hI
  refine L_aload_n (pc := 1373) X (k := 1) (j := 3) (k' := 1) (x := 1) (by decide) rfl rfl dL_law_1373 ?_
  refine L_arg (pc := 1374) X (j := j) (k := 1) (n := 0) (z := 1) (x := 0) rfl ⟨4, rfl⟩ rfl (by omega) hL dL_law_1374 dL_law_1375 dL_law_1377 dL_law_1378 dL_law_1379 ?_
  refine L_callV (pc := 1380) (as := [.inl (kXs κ (j + 1))]) (st := []) (st2 := [.inl v]) (r1 := (some (.inl v), h1)) (h2 := h1) (ky := 5) X dL_law_1380 ca_X12_image ci_X12_image cs_X12_image ml_L_191 (Nat.le_of_ble_eq_true rfl) ly1 rfl rfl (m_X12_image _ _ _ q1) rfl rfl (Nat.le_of_ble_eq_true rfl) rfl rfl ?_ hi5
  refine L_aload_n (pc := 1383) X (k := 2) (j := 2) (k' := 2) (x := 155) (by decide) rfl rfl dL_law_1383 ?_
  refine L_arg (pc := 1384) X (j := j) (k := 1) (n := 0) (z := 1) (x := 0) rfl ⟨4, rfl⟩ rfl (by omega) hL dL_law_1384 dL_law_1385 dL_law_1387 dL_law_1388 dL_law_1389 ?_
  refine L_callV (pc := 1390) (as := [.inl (kXs κ (j + 1))]) (st := [.inl v]) (st2 := [.inl v, .inl v]) (r1 := (some (.inl v), h2)) (h2 := h2) (ky := 2) X dL_law_1390 ca_X13_image ci_X13_image cs_X13_image ml_L_194 (Nat.le_of_ble_eq_true rfl) ly155 rfl rfl (m_X13_image _ _ _ q2) rfl rfl (Nat.le_of_ble_eq_true rfl) rfl rfl ?_ hi5
  exact L_icmp_eq (pc := 1393) X dL_law_1393 rfl (fun _ => K h2 hI2) (fun z => absurd rfl z)
theorem lc_restore (X : OKL κ) (hi5 : i ≤ 1000) (hj : j + 6 ≤ kLn κ) (hL : kLn κ < 2147483648) (hI : Inv h) (K : ∀ h2, Inv h2 → JL κ 1448 (LL j) [] h2 o i) : JL κ 1398 (LL j) [] h o i := by
  obtain ⟨v, h1, h2, q1, q2, hI2⟩ := st_restore (kXs κ (j + 1)) hI
  refine L_aload_n (pc := 1398) X (k := 1) (j := 3) (k' := 1) (x := 1) (by decide) rfl rfl dL_law_1398 ?_
  refine L_arg (pc := 1399) X (j := j) (k := 1) (n := 0) (z := 1) (x := 0) rfl ⟨4, rfl⟩ rfl (by omega) hL dL_law_1399 dL_law_1400 dL_law_1402 dL_law_1403 dL_law_1404 ?_
  refine L_callV (pc := 1405) (as := [.inl (kXs κ (j + 1))]) (st := []) (st2 := [.inl v]) (r1 := (some (.inl v), h1)) (h2 := h1) (ky := 5) X dL_law_1405 ca_X12_restore ci_X12_restore cs_X12_restore ml_L_195 (Nat.le_of_ble_eq_true rfl) ly1 rfl rfl (m_X12_restore _ _ _ q1) rfl rfl (Nat.le_of_ble_eq_true rfl) rfl rfl ?_ hi5
  refine L_aload_n (pc := 1408) X (k := 2) (j := 2) (k' := 2) (x := 155) (by decide) rfl rfl dL_law_1408 ?_
  refine L_arg (pc := 1409) X (j := j) (k := 1) (n := 0) (z := 1) (x := 0) rfl ⟨4, rfl⟩ rfl (by omega) hL dL_law_1409 dL_law_1410 dL_law_1412 dL_law_1413 dL_law_1414 ?_
  refine L_callV (pc := 1415) (as := [.inl (kXs κ (j + 1))]) (st := [.inl v]) (st2 := [.inl v, .inl v]) (r1 := (some (.inl v), h2)) (h2 := h2) (ky := 2) X dL_law_1415 ca_X13_restore ci_X13_restore cs_X13_restore ml_L_198 (Nat.le_of_ble_eq_true rfl) ly155 rfl rfl (m_X13_restore _ _ _ q2) rfl rfl (Nat.le_of_ble_eq_true rfl) rfl rfl ?_ hi5
  exact L_icmp_eq (pc := 1418) X dL_law_1418 rfl (fun _ => K h2 hI2) (fun z => absurd rfl z)
theorem lc_count (X : OKL κ) (hi5 : i ≤ 1000) (hj : j + 6 ≤ kLn κ) (hL : kLn κ < 2147483648) (hI : Inv h) (K : ∀ h2, Inv h2 → JL κ 1448 (LL j) [] h2 o i) : JL κ 1423 (LL j) [] h o i := by
  obtain ⟨v, h1, h2, q1, q2, hI2⟩ := st_count (kXs κ (j + 1)) hI
  refine L_aload_n (pc := 1423) X (k := 1) (j := 3) (k' := 1) (x := 1) (by decide) rfl rfl dL_law_1423 ?_
  refine L_arg (pc := 1424) X (j := j) (k := 1) (n := 0) (z := 1) (x := 0) rfl ⟨4, rfl⟩ rfl (by omega) hL dL_law_1424 dL_law_1425 dL_law_1427 dL_law_1428 dL_law_1429 ?_
  refine L_callV (pc := 1430) (as := [.inl (kXs κ (j + 1))]) (st := []) (st2 := [.inl v]) (r1 := (some (.inl v), h1)) (h2 := h1) (ky := 1) X dL_law_1430 ca_X12_count ci_X12_count cs_X12_count ml_L_199 (Nat.le_of_ble_eq_true rfl) ly1 rfl rfl (m_X12_count _ _ _ q1) rfl rfl (Nat.le_of_ble_eq_true rfl) rfl rfl ?_ hi5
  refine L_aload_n (pc := 1433) X (k := 2) (j := 2) (k' := 2) (x := 155) (by decide) rfl rfl dL_law_1433 ?_
  refine L_arg (pc := 1434) X (j := j) (k := 1) (n := 0) (z := 1) (x := 0) rfl ⟨4, rfl⟩ rfl (by omega) hL dL_law_1434 dL_law_1435 dL_law_1437 dL_law_1438 dL_law_1439 ?_
  refine L_callV (pc := 1440) (as := [.inl (kXs κ (j + 1))]) (st := [.inl v]) (st2 := [.inl v, .inl v]) (r1 := (some (.inl v), h2)) (h2 := h2) (ky := 1) X dL_law_1440 ca_X13_count_ ci_X13_count_ cs_X13_count_ ml_L_202 (Nat.le_of_ble_eq_true rfl) ly155 rfl rfl (m_X13_count_ _ _ _ q2) rfl rfl (Nat.le_of_ble_eq_true rfl) rfl rfl ?_ hi5
  exact L_icmp_eq (pc := 1443) X dL_law_1443 rfl (fun _ => K h2 hI2) (fun z => absurd rfl z)
end LC
