theorem zw0 : Cond.selects RX11 yX11_error yX11_error ∈ WS := zw_mem 0 (by decide +kernel) (by decide +kernel)
theorem zw1 : Cond.selects RX1 yX1_leadsToEnd yX1_leadsToEnd ∈ WS := zw_mem 1 (by decide +kernel) (by decide +kernel)
theorem zw2 : Cond.selects RX1 yX1_countFromBegin yX1_countFromBegin ∈ WS := zw_mem 2 (by decide +kernel) (by decide +kernel)
theorem zw3 : Cond.selects RX1 yX1_waysInto yX1_waysInto ∈ WS := zw_mem 3 (by decide +kernel) (by decide +kernel)
theorem zw4 : Cond.selects RX2 yX2_level yX2_level ∈ WS := zw_mem 4 (by decide +kernel) (by decide +kernel)
theorem zw5 : Cond.selects RX2 yX2_operand yX2_operand ∈ WS := zw_mem 5 (by decide +kernel) (by decide +kernel)
theorem zw6 : Cond.selects RX2 yX2_next yX2_next ∈ WS := zw_mem 6 (by decide +kernel) (by decide +kernel)
theorem zw7 : Cond.selects RX2 yX2_number yX2_number ∈ WS := zw_mem 7 (by decide +kernel) (by decide +kernel)
theorem zw8 : Cond.selects RX2 yX2_emit yX2_emit ∈ WS := zw_mem 8 (by decide +kernel) (by decide +kernel)
theorem zw9 : Cond.selects RX2 yX2_close yX2_close ∈ WS := zw_mem 9 (by decide +kernel) (by decide +kernel)
theorem zw10 : Cond.selects RX2 yX2_failHere yX2_failHere ∈ WS := zw_mem 10 (by decide +kernel) (by decide +kernel)
theorem zw11 : Cond.selects RX1 yX1_lowestThatLeadsOn yX1_lowestThatLeadsOn ∈ WS := zw_mem 11 (by decide +kernel) (by decide +kernel)
theorem zw12 : Cond.selects RX11 yX11_readsWith yX11_readsWith ∈ WS := zw_mem 12 (by decide +kernel) (by decide +kernel)
theorem zw13 : Cond.selects RX11 yX11_othersAt yX11_othersAt ∈ WS := zw_mem 13 (by decide +kernel) (by decide +kernel)
theorem zw14 : Cond.selects RX1 yX1_leastInto yX1_leastInto ∈ WS := zw_mem 14 (by decide +kernel) (by decide +kernel)
theorem zw15 : Cond.selects RX11 yX11_unlikeWish yX11_unlikeWish ∈ WS := zw_mem 15 (by decide +kernel) (by decide +kernel)
theorem zw16 : Cond.selects RX0 yX0_extend yX0_extend ∈ WS := zw_mem 16 (by decide +kernel) (by decide +kernel)
theorem zw17 : Cond.selects RX0 yX0_note yX0_note ∈ WS := zw_mem 17 (by decide +kernel) (by decide +kernel)
theorem zw18 : Cond.selects RX0 yX0_take yX0_take ∈ WS := zw_mem 18 (by decide +kernel) (by decide +kernel)
theorem zw19 : Cond.selects RX0 yX0_giveBack yX0_giveBack ∈ WS := zw_mem 19 (by decide +kernel) (by decide +kernel)
theorem zw20 : Cond.selects RX11 yX11_passYear yX11_passYear ∈ WS := zw_mem 20 (by decide +kernel) (by decide +kernel)
theorem zw21 : Cond.selects RX5 yX5_speak yX5_speak ∈ WS := zw_mem 21 (by decide +kernel) (by decide +kernel)
theorem zw22 : Cond.selects RX5 yX5_note yX5_note ∈ WS := zw_mem 22 (by decide +kernel) (by decide +kernel)
theorem zw23 : Cond.selects RX5 yX5_sound yX5_sound ∈ WS := zw_mem 23 (by decide +kernel) (by decide +kernel)
theorem zw24 : Cond.selects RX5 yX5_quotient yX5_quotient ∈ WS := zw_mem 24 (by decide +kernel) (by decide +kernel)
theorem zw25 : Cond.selects RX12 yX12_error yX12_error ∈ WS := zw_mem 25 (by decide +kernel) (by decide +kernel)
theorem zw26 : Cond.selects RX12 yX12_whole yX12_whole ∈ WS := zw_mem 26 (by decide +kernel) (by decide +kernel)
theorem zw27 : Cond.selects RX12 yX12_both yX12_both ∈ WS := zw_mem 27 (by decide +kernel) (by decide +kernel)
theorem zw28 : Cond.selects RX12 yX12_compared yX12_compared ∈ WS := zw_mem 28 (by decide +kernel) (by decide +kernel)
theorem zw29 : Cond.selects RX12 yX12_sum yX12_sum ∈ WS := zw_mem 29 (by decide +kernel) (by decide +kernel)
theorem zw30 : Cond.selects RX12 yX12_product yX12_product ∈ WS := zw_mem 30 (by decide +kernel) (by decide +kernel)
theorem zw31 : Cond.selects RX12 yX12_one yX12_one ∈ WS := zw_mem 31 (by decide +kernel) (by decide +kernel)
theorem zw32 : Cond.selects RX12 yX12_look yX12_look ∈ WS := zw_mem 32 (by decide +kernel) (by decide +kernel)
theorem zw33 : Cond.selects RX12 yX12_isName yX12_isName ∈ WS := zw_mem 33 (by decide +kernel) (by decide +kernel)
theorem zw34 : Cond.selects RX12 yX12_lays yX12_lays ∈ WS := zw_mem 34 (by decide +kernel) (by decide +kernel)
theorem zw35 : Cond.selects RX12 yX12_opens yX12_opens ∈ WS := zw_mem 35 (by decide +kernel) (by decide +kernel)
theorem zw36 : Cond.selects RX12 yX12_hasText yX12_hasText ∈ WS := zw_mem 36 (by decide +kernel) (by decide +kernel)
theorem zw37 : Cond.selects RX12 yX12_isWall yX12_isWall ∈ WS := zw_mem 37 (by decide +kernel) (by decide +kernel)
theorem zw38 : Cond.selects RX12 yX12_reads yX12_reads ∈ WS := zw_mem 38 (by decide +kernel) (by decide +kernel)
theorem zw39 : Cond.selects RX12 yX12_takes yX12_takes ∈ WS := zw_mem 39 (by decide +kernel) (by decide +kernel)
theorem zw40 : Cond.selects RX12 yX12_its yX12_its ∈ WS := zw_mem 40 (by decide +kernel) (by decide +kernel)
theorem zw41 : Cond.selects RX12 yX12_at yX12_at ∈ WS := zw_mem 41 (by decide +kernel) (by decide +kernel)
theorem zw42 : Cond.selects RX12 yX12_turns yX12_turns ∈ WS := zw_mem 42 (by decide +kernel) (by decide +kernel)
theorem zw43 : Cond.selects RX12 yX12_worked yX12_worked ∈ WS := zw_mem 43 (by decide +kernel) (by decide +kernel)
theorem zw44 : Cond.selects RX12 yX12_doesRead yX12_doesRead ∈ WS := zw_mem 44 (by decide +kernel) (by decide +kernel)
theorem zw45 : Cond.selects RX12 yX12_findWays yX12_findWays ∈ WS := zw_mem 45 (by decide +kernel) (by decide +kernel)
theorem zw46 : Cond.selects RX12 yX12_sortOf yX12_sortOf ∈ WS := zw_mem 46 (by decide +kernel) (by decide +kernel)
theorem zw47 : Cond.selects RX12 yX12_unlike yX12_unlike ∈ WS := zw_mem 47 (by decide +kernel) (by decide +kernel)
theorem zw48 : Cond.selects RX12 yX12_lengthOf yX12_lengthOf ∈ WS := zw_mem 48 (by decide +kernel) (by decide +kernel)
theorem zw49 : Cond.selects RX12 yX12_letterOf yX12_letterOf ∈ WS := zw_mem 49 (by decide +kernel) (by decide +kernel)
theorem zw50 : Cond.selects RX12 yX12_stuck yX12_stuck ∈ WS := zw_mem 50 (by decide +kernel) (by decide +kernel)
theorem zw51 : Cond.selects RX12 yX12_costOf yX12_costOf ∈ WS := zw_mem 51 (by decide +kernel) (by decide +kernel)
theorem zw52 : Cond.selects RX12 yX12_priceOf yX12_priceOf ∈ WS := zw_mem 52 (by decide +kernel) (by decide +kernel)
theorem zw53 : Cond.selects RX12 yX12_isPlace yX12_isPlace ∈ WS := zw_mem 53 (by decide +kernel) (by decide +kernel)
theorem zw54 : Cond.selects RX12 yX12_isWord yX12_isWord ∈ WS := zw_mem 54 (by decide +kernel) (by decide +kernel)
theorem zw55 : Cond.selects RX12 yX12_findSaid yX12_findSaid ∈ WS := zw_mem 55 (by decide +kernel) (by decide +kernel)
theorem zw56 : Cond.selects RX12 yX12_readsWithDoor yX12_readsWithDoor ∈ WS := zw_mem 56 (by decide +kernel) (by decide +kernel)
theorem zw57 : Cond.selects RX12 yX12_othersAt yX12_othersAt ∈ WS := zw_mem 57 (by decide +kernel) (by decide +kernel)
theorem zw58 : Cond.selects RX12 yX12_letters yX12_letters ∈ WS := zw_mem 58 (by decide +kernel) (by decide +kernel)
theorem zw59 : Cond.selects RX12 yX12_toHeap yX12_toHeap ∈ WS := zw_mem 59 (by decide +kernel) (by decide +kernel)
theorem zw60 : Cond.selects RX12 yX12_builds1 yX12_builds1 ∈ WS := zw_mem 60 (by decide +kernel) (by decide +kernel)
theorem zw61 : Cond.selects RX12 yX12_takesLetters yX12_takesLetters ∈ WS := zw_mem 61 (by decide +kernel) (by decide +kernel)
theorem zw62 : Cond.selects RX12 yX12_givesLetters yX12_givesLetters ∈ WS := zw_mem 62 (by decide +kernel) (by decide +kernel)
theorem zw63 : Cond.selects RX12 yX12_draw yX12_draw ∈ WS := zw_mem 63 (by decide +kernel) (by decide +kernel)
theorem zw64 : Cond.selects RX12 yX12_kindNow yX12_kindNow ∈ WS := zw_mem 64 (by decide +kernel) (by decide +kernel)
theorem zw65 : Cond.selects RX12 yX12_readsBy yX12_readsBy ∈ WS := zw_mem 65 (by decide +kernel) (by decide +kernel)
theorem zw66 : Cond.selects RX12 yX12_begins yX12_begins ∈ WS := zw_mem 66 (by decide +kernel) (by decide +kernel)
theorem zw67 : Cond.selects RX12 yX12_saysBy yX12_saysBy ∈ WS := zw_mem 67 (by decide +kernel) (by decide +kernel)
theorem zw68 : Cond.selects RX12 yX12_mNow yX12_mNow ∈ WS := zw_mem 68 (by decide +kernel) (by decide +kernel)
theorem zw69 : Cond.selects RX12 yX12_fallsBy yX12_fallsBy ∈ WS := zw_mem 69 (by decide +kernel) (by decide +kernel)
theorem zw70 : Cond.selects RX12 yX12_mendsBy yX12_mendsBy ∈ WS := zw_mem 70 (by decide +kernel) (by decide +kernel)
theorem zw72 : Cond.initialized RX11 ∈ WS := zw_mem 72 (by decide +kernel) (by decide +kernel)
theorem zw73 : Cond.initialized RX8 ∈ WS := zw_mem 73 (by decide +kernel) (by decide +kernel)
theorem zw74 : Cond.initialized RX7 ∈ WS := zw_mem 74 (by decide +kernel) (by decide +kernel)
theorem zw75 : Cond.initialized RX10 ∈ WS := zw_mem 75 (by decide +kernel) (by decide +kernel)
theorem zw76 : Cond.initialized RX6 ∈ WS := zw_mem 76 (by decide +kernel) (by decide +kernel)
theorem zw77 : Cond.initialized RX9 ∈ WS := zw_mem 77 (by decide +kernel) (by decide +kernel)
theorem zw78 : Cond.initialized RX4 ∈ WS := zw_mem 78 (by decide +kernel) (by decide +kernel)
theorem zw79 : Cond.initialized RX1 ∈ WS := zw_mem 79 (by decide +kernel) (by decide +kernel)
theorem zw80 : Cond.initialized RX3 ∈ WS := zw_mem 80 (by decide +kernel) (by decide +kernel)
theorem zw81 : Cond.initialized RX2 ∈ WS := zw_mem 81 (by decide +kernel) (by decide +kernel)
theorem zw82 : Cond.initialized RX0 ∈ WS := zw_mem 82 (by decide +kernel) (by decide +kernel)
theorem zw83 : Cond.initialized RX5 ∈ WS := zw_mem 83 (by decide +kernel) (by decide +kernel)
theorem zw84 : Cond.initialized RX12 ∈ WS := zw_mem 84 (by decide +kernel) (by decide +kernel)
theorem zw85 : Cond.initialized RJ7 ∈ WS := zw_mem 85 (by decide +kernel) (by decide +kernel)
theorem zw86 : Cond.initialized RJ9 ∈ WS := zw_mem 86 (by decide +kernel) (by decide +kernel)
theorem zw87 : Cond.initialized "java/lang/System" ∈ WS := zw_mem 87 (by decide +kernel) (by decide +kernel)
theorem zw93 : Cond.initialized RJ6 ∈ WS := zw_mem 93 (by decide +kernel) (by decide +kernel)
theorem zw123 : Cond.fieldLink RX10 9 RX10 "letters" "[I" ∈ WS := zw_mem 123 (by decide +kernel) (by decide +kernel)
theorem zw124 : Cond.fieldLink RX0 81 RX10 "letters" "[I" ∈ WS := zw_mem 124 (by decide +kernel) (by decide +kernel)
theorem zw125 : Cond.fieldLink RX11 157 RX10 "letters" "[I" ∈ WS := zw_mem 125 (by decide +kernel) (by decide +kernel)
theorem zw126 : Cond.fieldLink RX10 15 RX10 "sort" "I" ∈ WS := zw_mem 126 (by decide +kernel) (by decide +kernel)
theorem zw127 : Cond.fieldLink RX1 47 RX10 "sort" "I" ∈ WS := zw_mem 127 (by decide +kernel) (by decide +kernel)
theorem zw128 : Cond.fieldLink RX0 64 RX10 "sort" "I" ∈ WS := zw_mem 128 (by decide +kernel) (by decide +kernel)
theorem zw129 : Cond.fieldLink RX11 158 RX10 "sort" "I" ∈ WS := zw_mem 129 (by decide +kernel) (by decide +kernel)
theorem zw130 : Cond.fieldLink RX10 19 RX10 "size" "I" ∈ WS := zw_mem 130 (by decide +kernel) (by decide +kernel)
theorem zw131 : Cond.fieldLink RX1 56 RX10 "size" "I" ∈ WS := zw_mem 131 (by decide +kernel) (by decide +kernel)
theorem zw132 : Cond.fieldLink RX0 80 RX10 "size" "I" ∈ WS := zw_mem 132 (by decide +kernel) (by decide +kernel)
theorem zw133 : Cond.fieldLink RX11 156 RX10 "size" "I" ∈ WS := zw_mem 133 (by decide +kernel) (by decide +kernel)
theorem zw142 : Cond.fieldLink RX7 11 RX7 "words" "[LLetterWalls$Word;" ∈ WS := zw_mem 142 (by decide +kernel) (by decide +kernel)
theorem zw143 : Cond.fieldLink RX1 36 RX7 "words" "[LLetterWalls$Word;" ∈ WS := zw_mem 143 (by decide +kernel) (by decide +kernel)
theorem zw144 : Cond.fieldLink RX0 57 RX7 "words" "[LLetterWalls$Word;" ∈ WS := zw_mem 144 (by decide +kernel) (by decide +kernel)
theorem zw145 : Cond.fieldLink RX11 144 RX7 "words" "[LLetterWalls$Word;" ∈ WS := zw_mem 145 (by decide +kernel) (by decide +kernel)
theorem zw146 : Cond.fieldLink RX7 18 RX7 "size" "I" ∈ WS := zw_mem 146 (by decide +kernel) (by decide +kernel)
theorem zw147 : Cond.fieldLink RX1 33 RX7 "size" "I" ∈ WS := zw_mem 147 (by decide +kernel) (by decide +kernel)
theorem zw148 : Cond.fieldLink RX0 52 RX7 "size" "I" ∈ WS := zw_mem 148 (by decide +kernel) (by decide +kernel)
theorem zw149 : Cond.fieldLink RX11 141 RX7 "size" "I" ∈ WS := zw_mem 149 (by decide +kernel) (by decide +kernel)
theorem zw161 : Cond.fieldLink RX6 9 RX6 "signs" "[I" ∈ WS := zw_mem 161 (by decide +kernel) (by decide +kernel)
theorem zw162 : Cond.fieldLink RX2 50 RX6 "signs" "[I" ∈ WS := zw_mem 162 (by decide +kernel) (by decide +kernel)
theorem zw163 : Cond.fieldLink RX6 15 RX6 "stack" "[I" ∈ WS := zw_mem 163 (by decide +kernel) (by decide +kernel)
theorem zw164 : Cond.fieldLink RX6 18 RX6 "named" "[I" ∈ WS := zw_mem 164 (by decide +kernel) (by decide +kernel)
theorem zw165 : Cond.fieldLink RX6 21 RX6 "size" "I" ∈ WS := zw_mem 165 (by decide +kernel) (by decide +kernel)
theorem zw166 : Cond.fieldLink RX2 53 RX6 "size" "I" ∈ WS := zw_mem 166 (by decide +kernel) (by decide +kernel)
theorem zw167 : Cond.fieldLink RX11 189 RX6 "size" "I" ∈ WS := zw_mem 167 (by decide +kernel) (by decide +kernel)
theorem zw182 : Cond.fieldLink RX9 9 RX9 "stones" "[I" ∈ WS := zw_mem 182 (by decide +kernel) (by decide +kernel)
theorem zw183 : Cond.fieldLink RX3 21 RX9 "stones" "[I" ∈ WS := zw_mem 183 (by decide +kernel) (by decide +kernel)
theorem zw184 : Cond.fieldLink RX11 132 RX9 "stones" "[I" ∈ WS := zw_mem 184 (by decide +kernel) (by decide +kernel)
theorem zw185 : Cond.fieldLink RX8 133 RX9 "stones" "[I" ∈ WS := zw_mem 185 (by decide +kernel) (by decide +kernel)
theorem zw186 : Cond.fieldLink RX9 15 RX9 "kind" "I" ∈ WS := zw_mem 186 (by decide +kernel) (by decide +kernel)
theorem zw187 : Cond.fieldLink RX5 15 RX9 "kind" "I" ∈ WS := zw_mem 187 (by decide +kernel) (by decide +kernel)
theorem zw188 : Cond.fieldLink RX11 96 RX9 "kind" "I" ∈ WS := zw_mem 188 (by decide +kernel) (by decide +kernel)
theorem zw189 : Cond.fieldLink RX8 93 RX9 "kind" "I" ∈ WS := zw_mem 189 (by decide +kernel) (by decide +kernel)
theorem zw190 : Cond.fieldLink RX9 19 RX9 "m" "I" ∈ WS := zw_mem 190 (by decide +kernel) (by decide +kernel)
theorem zw191 : Cond.fieldLink RX5 22 RX9 "m" "I" ∈ WS := zw_mem 191 (by decide +kernel) (by decide +kernel)
theorem zw192 : Cond.fieldLink RX11 99 RX9 "m" "I" ∈ WS := zw_mem 192 (by decide +kernel) (by decide +kernel)
theorem zw193 : Cond.fieldLink RX8 100 RX9 "m" "I" ∈ WS := zw_mem 193 (by decide +kernel) (by decide +kernel)
theorem zw194 : Cond.fieldLink RX3 15 RX9 "size" "I" ∈ WS := zw_mem 194 (by decide +kernel) (by decide +kernel)
theorem zw195 : Cond.fieldLink RX9 22 RX9 "size" "I" ∈ WS := zw_mem 195 (by decide +kernel) (by decide +kernel)
theorem zw196 : Cond.fieldLink RX11 102 RX9 "size" "I" ∈ WS := zw_mem 196 (by decide +kernel) (by decide +kernel)
theorem zw197 : Cond.fieldLink RX8 84 RX9 "size" "I" ∈ WS := zw_mem 197 (by decide +kernel) (by decide +kernel)
theorem zw207 : Cond.fieldLink RX8 11 RX8 "walls" "[LLetterWalls$Wall;" ∈ WS := zw_mem 207 (by decide +kernel) (by decide +kernel)
theorem zw208 : Cond.fieldLink RX11 80 RX8 "walls" "[LLetterWalls$Wall;" ∈ WS := zw_mem 208 (by decide +kernel) (by decide +kernel)
theorem zw209 : Cond.fieldLink RX8 20 RX8 "tongue" "LLetterWalls$Tongue;" ∈ WS := zw_mem 209 (by decide +kernel) (by decide +kernel)
theorem zw210 : Cond.fieldLink RX11 106 RX8 "tongue" "LLetterWalls$Tongue;" ∈ WS := zw_mem 210 (by decide +kernel) (by decide +kernel)
theorem zw211 : Cond.fieldLink RX8 27 RX8 "turns" "LLetterWalls$Text;" ∈ WS := zw_mem 211 (by decide +kernel) (by decide +kernel)
theorem zw212 : Cond.fieldLink RX8 31 RX8 "prices" "LLetterWalls$Text;" ∈ WS := zw_mem 212 (by decide +kernel) (by decide +kernel)
theorem zw213 : Cond.fieldLink RX8 34 RX8 "tape" "[I" ∈ WS := zw_mem 213 (by decide +kernel) (by decide +kernel)
theorem zw214 : Cond.fieldLink RX11 164 RX8 "tape" "[I" ∈ WS := zw_mem 214 (by decide +kernel) (by decide +kernel)
theorem zw215 : Cond.fieldLink RX8 38 RX8 "heaped" "[I" ∈ WS := zw_mem 215 (by decide +kernel) (by decide +kernel)
theorem zw216 : Cond.fieldLink RX11 237 RX8 "heaped" "[I" ∈ WS := zw_mem 216 (by decide +kernel) (by decide +kernel)
theorem zw217 : Cond.fieldLink RX8 41 RX8 "waiting" "[I" ∈ WS := zw_mem 217 (by decide +kernel) (by decide +kernel)
theorem zw218 : Cond.fieldLink RX11 318 RX8 "waiting" "[I" ∈ WS := zw_mem 218 (by decide +kernel) (by decide +kernel)
theorem zw219 : Cond.fieldLink RX11 76 RX8 "wallCount" "I" ∈ WS := zw_mem 219 (by decide +kernel) (by decide +kernel)
theorem zw220 : Cond.fieldLink RX8 68 RX8 "wallCount" "I" ∈ WS := zw_mem 220 (by decide +kernel) (by decide +kernel)
theorem zw221 : Cond.fieldLink RX8 71 RX8 "taped" "I" ∈ WS := zw_mem 221 (by decide +kernel) (by decide +kernel)
theorem zw222 : Cond.fieldLink RX11 161 RX8 "taped" "I" ∈ WS := zw_mem 222 (by decide +kernel) (by decide +kernel)
theorem zw223 : Cond.fieldLink RX8 74 RX8 "waits" "I" ∈ WS := zw_mem 223 (by decide +kernel) (by decide +kernel)
theorem zw224 : Cond.fieldLink RX11 315 RX8 "waits" "I" ∈ WS := zw_mem 224 (by decide +kernel) (by decide +kernel)
theorem zw225 : Cond.fieldLink RX8 77 RX8 "season" "I" ∈ WS := zw_mem 225 (by decide +kernel) (by decide +kernel)
theorem zw226 : Cond.fieldLink RX11 244 RX8 "season" "I" ∈ WS := zw_mem 226 (by decide +kernel) (by decide +kernel)
theorem zw227 : Cond.fieldLink RX8 44 RX8 "purse" "I" ∈ WS := zw_mem 227 (by decide +kernel) (by decide +kernel)
theorem zw228 : Cond.fieldLink RX11 247 RX8 "purse" "I" ∈ WS := zw_mem 228 (by decide +kernel) (by decide +kernel)
theorem zw229 : Cond.fieldLink RX8 48 RX8 "z" "I" ∈ WS := zw_mem 229 (by decide +kernel) (by decide +kernel)
theorem zw230 : Cond.fieldLink RX11 271 RX8 "z" "I" ∈ WS := zw_mem 230 (by decide +kernel) (by decide +kernel)
theorem zw265 : Cond.fieldLink RX4 9 RX4 "numbers" "[I" ∈ WS := zw_mem 265 (by decide +kernel) (by decide +kernel)
theorem zw266 : Cond.fieldLink RX11 230 RX4 "numbers" "[I" ∈ WS := zw_mem 266 (by decide +kernel) (by decide +kernel)
theorem zw267 : Cond.fieldLink RX4 15 RX4 "bits" "I" ∈ WS := zw_mem 267 (by decide +kernel) (by decide +kernel)
theorem zw268 : Cond.fieldLink RX11 292 RX4 "bits" "I" ∈ WS := zw_mem 268 (by decide +kernel) (by decide +kernel)
theorem zw269 : Cond.fieldLink RX4 19 RX4 "size" "I" ∈ WS := zw_mem 269 (by decide +kernel) (by decide +kernel)
theorem zw270 : Cond.fieldLink RX11 229 RX4 "size" "I" ∈ WS := zw_mem 270 (by decide +kernel) (by decide +kernel)
theorem zw284 : Cond.fieldLink RX1 9 RX1 "ends" "[I" ∈ WS := zw_mem 284 (by decide +kernel) (by decide +kernel)
theorem zw285 : Cond.fieldLink RX1 15 RX1 "kept" "[I" ∈ WS := zw_mem 285 (by decide +kernel) (by decide +kernel)
theorem zw286 : Cond.fieldLink RX1 18 RX1 "said" "[I" ∈ WS := zw_mem 286 (by decide +kernel) (by decide +kernel)
theorem zw287 : Cond.fieldLink RX11 196 RX1 "said" "[I" ∈ WS := zw_mem 287 (by decide +kernel) (by decide +kernel)
theorem zw288 : Cond.fieldLink RX1 60 RX1 "saidSize" "I" ∈ WS := zw_mem 288 (by decide +kernel) (by decide +kernel)
theorem zw289 : Cond.fieldLink RX11 193 RX1 "saidSize" "I" ∈ WS := zw_mem 289 (by decide +kernel) (by decide +kernel)
theorem zw305 : Cond.fieldLink RX3 9 RX3 "letters" "[I" ∈ WS := zw_mem 305 (by decide +kernel) (by decide +kernel)
theorem zw306 : Cond.fieldLink RX10 31 RX3 "letters" "[I" ∈ WS := zw_mem 306 (by decide +kernel) (by decide +kernel)
theorem zw307 : Cond.fieldLink RX11 135 RX3 "letters" "[I" ∈ WS := zw_mem 307 (by decide +kernel) (by decide +kernel)
theorem zw308 : Cond.fieldLink RX1 27 RX3 "size" "I" ∈ WS := zw_mem 308 (by decide +kernel) (by decide +kernel)
theorem zw309 : Cond.fieldLink RX3 24 RX3 "size" "I" ∈ WS := zw_mem 309 (by decide +kernel) (by decide +kernel)
theorem zw310 : Cond.fieldLink RX11 105 RX3 "size" "I" ∈ WS := zw_mem 310 (by decide +kernel) (by decide +kernel)
theorem zw311 : Cond.fieldLink RX10 28 RX3 "size" "I" ∈ WS := zw_mem 311 (by decide +kernel) (by decide +kernel)
theorem zw312 : Cond.fieldLink RX8 87 RX3 "size" "I" ∈ WS := zw_mem 312 (by decide +kernel) (by decide +kernel)
theorem zw327 : Cond.fieldLink RX2 9 RX2 "bytes" "[I" ∈ WS := zw_mem 327 (by decide +kernel) (by decide +kernel)
theorem zw328 : Cond.fieldLink RX2 15 RX2 "signs" "[I" ∈ WS := zw_mem 328 (by decide +kernel) (by decide +kernel)
theorem zw329 : Cond.fieldLink RX2 30 RX2 "size" "I" ∈ WS := zw_mem 329 (by decide +kernel) (by decide +kernel)
theorem zw330 : Cond.fieldLink RX2 34 RX2 "at" "I" ∈ WS := zw_mem 330 (by decide +kernel) (by decide +kernel)
theorem zw331 : Cond.fieldLink RX2 37 RX2 "signCount" "I" ∈ WS := zw_mem 331 (by decide +kernel) (by decide +kernel)
theorem zw332 : Cond.fieldLink RX2 40 RX2 "fault" "I" ∈ WS := zw_mem 332 (by decide +kernel) (by decide +kernel)
theorem zw333 : Cond.fieldLink RX2 20 RX2 "names" "Ljava/lang/String;" ∈ WS := zw_mem 333 (by decide +kernel) (by decide +kernel)
theorem zw356 : Cond.fieldLink RX0 9 RX0 "left" "[I" ∈ WS := zw_mem 356 (by decide +kernel) (by decide +kernel)
theorem zw357 : Cond.fieldLink RX0 21 RX0 "tongue" "LLetterWalls$Tongue;" ∈ WS := zw_mem 357 (by decide +kernel) (by decide +kernel)
theorem zw358 : Cond.fieldLink RX0 31 RX0 "most" "I" ∈ WS := zw_mem 358 (by decide +kernel) (by decide +kernel)
theorem zw359 : Cond.fieldLink RX0 35 RX0 "found" "I" ∈ WS := zw_mem 359 (by decide +kernel) (by decide +kernel)
theorem zw360 : Cond.fieldLink RX11 262 RX0 "found" "I" ∈ WS := zw_mem 360 (by decide +kernel) (by decide +kernel)
theorem zw361 : Cond.fieldLink RX0 38 RX0 "first" "I" ∈ WS := zw_mem 361 (by decide +kernel) (by decide +kernel)
theorem zw362 : Cond.fieldLink RX11 265 RX0 "first" "I" ∈ WS := zw_mem 362 (by decide +kernel) (by decide +kernel)
theorem zw363 : Cond.fieldLink RX0 41 RX0 "firstSize" "I" ∈ WS := zw_mem 363 (by decide +kernel) (by decide +kernel)
theorem zw383 : Cond.fieldLink RX5 9 RX5 "trace" "[I" ∈ WS := zw_mem 383 (by decide +kernel) (by decide +kernel)
theorem zw384 : Cond.fieldLink RX11 285 RX5 "trace" "[I" ∈ WS := zw_mem 384 (by decide +kernel) (by decide +kernel)
theorem zw385 : Cond.fieldLink RX5 29 RX5 "traced" "I" ∈ WS := zw_mem 385 (by decide +kernel) (by decide +kernel)
theorem zw386 : Cond.fieldLink RX11 282 RX5 "traced" "I" ∈ WS := zw_mem 386 (by decide +kernel) (by decide +kernel)
theorem zw387 : Cond.fieldLink RX5 32 RX5 "parted" "Z" ∈ WS := zw_mem 387 (by decide +kernel) (by decide +kernel)
theorem zw388 : Cond.fieldLink RX11 278 RX5 "parted" "Z" ∈ WS := zw_mem 388 (by decide +kernel) (by decide +kernel)
theorem zw389 : Cond.fieldLink RX5 21 RX5 "kind" "I" ∈ WS := zw_mem 389 (by decide +kernel) (by decide +kernel)
theorem zw390 : Cond.fieldLink RX5 25 RX5 "m" "I" ∈ WS := zw_mem 390 (by decide +kernel) (by decide +kernel)
theorem zw391 : Cond.fieldLink RX5 26 RX5 "k" "I" ∈ WS := zw_mem 391 (by decide +kernel) (by decide +kernel)
theorem zw405 : Cond.fieldLink RX11 12 RX11 "now" "LLetterWalls$Town;" ∈ WS := zw_mem 405 (by decide +kernel) (by decide +kernel)
theorem zw406 : Cond.fieldLink RX11 16 RX11 "kept" "LLetterWalls$Town;" ∈ WS := zw_mem 406 (by decide +kernel) (by decide +kernel)
theorem zw407 : Cond.fieldLink RX11 21 RX11 "sheets" "[LLetterWalls$Sheet;" ∈ WS := zw_mem 407 (by decide +kernel) (by decide +kernel)
theorem zw408 : Cond.fieldLink RX11 29 RX11 "laws" "LLetterWalls$Laws;" ∈ WS := zw_mem 408 (by decide +kernel) (by decide +kernel)
theorem zw409 : Cond.fieldLink RX11 36 RX11 "row" "LLetterWalls$Row;" ∈ WS := zw_mem 409 (by decide +kernel) (by decide +kernel)
theorem zw410 : Cond.fieldLink RX11 43 RX11 "trial" "LLetterWalls$Wall;" ∈ WS := zw_mem 410 (by decide +kernel) (by decide +kernel)
theorem zw411 : Cond.fieldLink RX11 50 RX11 "parser" "LLetterWalls$Parser;" ∈ WS := zw_mem 411 (by decide +kernel) (by decide +kernel)
theorem zw412 : Cond.fieldLink RX11 57 RX11 "builder" "LLetterWalls$Builder;" ∈ WS := zw_mem 412 (by decide +kernel) (by decide +kernel)
theorem zw413 : Cond.fieldLink RX11 64 RX11 "speaker" "LLetterWalls$Speaker;" ∈ WS := zw_mem 413 (by decide +kernel) (by decide +kernel)
theorem zw414 : Cond.fieldLink RX11 68 RX11 "errorsTold" "[I" ∈ WS := zw_mem 414 (by decide +kernel) (by decide +kernel)
theorem zw415 : Cond.fieldLink RX11 312 RX11 "images" "I" ∈ WS := zw_mem 415 (by decide +kernel) (by decide +kernel)
theorem zw443 : Cond.methodLink RX11 72 yX11_error ∈ WS := zw_mem 443 (by decide +kernel) (by decide +kernel)
theorem zw445 : Cond.instanceMethod yX11_error ∈ WS := zw_mem 445 (by decide +kernel) (by decide +kernel)
theorem zw446 : Cond.code yX11_error cX11_error 2 (some .int) ∈ WS := zw_mem 446 (by decide +kernel) (by decide +kernel)
theorem zw447 : Cond.constant RX11 328 (-1000000) ∈ WS := zw_mem 447 (by decide +kernel) (by decide +kernel)
theorem zw448 : Cond.methodLink RX11 84 yX9_begin ∈ WS := zw_mem 448 (by decide +kernel) (by decide +kernel)
theorem zw449 : Cond.instanceMethod yX9_begin ∈ WS := zw_mem 449 (by decide +kernel) (by decide +kernel)
theorem zw450 : Cond.selects RX9 yX9_begin yX9_begin ∈ WS := zw_mem 450 (by decide +kernel) (by decide +kernel)
theorem zw451 : Cond.code yX9_begin cX9_begin 4 none ∈ WS := zw_mem 451 (by decide +kernel) (by decide +kernel)
theorem zw452 : Cond.methodLink RX9 25 yJ7_fill_53178 ∈ WS := zw_mem 452 (by decide +kernel) (by decide +kernel)
theorem zw453 : Cond.static yJ7_fill_53178 ∈ WS := zw_mem 453 (by decide +kernel) (by decide +kernel)
theorem zw454 : Cond.code yJ7_fill_53178 cJ7_fill_53178 4 none ∈ WS := zw_mem 454 (by decide +kernel) (by decide +kernel)
theorem zw459 : Cond.methodLink RX11 88 yX8_hasWall ∈ WS := zw_mem 459 (by decide +kernel) (by decide +kernel)
theorem zw460 : Cond.instanceMethod yX8_hasWall ∈ WS := zw_mem 460 (by decide +kernel) (by decide +kernel)
theorem zw461 : Cond.selects RX8 yX8_hasWall yX8_hasWall ∈ WS := zw_mem 461 (by decide +kernel) (by decide +kernel)
theorem zw462 : Cond.code yX8_hasWall cX8_hasWall 2 (some .boolean) ∈ WS := zw_mem 462 (by decide +kernel) (by decide +kernel)
theorem zw463 : Cond.methodLink RX11 92 yX8_spell ∈ WS := zw_mem 463 (by decide +kernel) (by decide +kernel)
theorem zw464 : Cond.instanceMethod yX8_spell ∈ WS := zw_mem 464 (by decide +kernel) (by decide +kernel)
theorem zw465 : Cond.selects RX8 yX8_spell yX8_spell ∈ WS := zw_mem 465 (by decide +kernel) (by decide +kernel)
theorem zw466 : Cond.code yX8_spell cX8_spell 4 none ∈ WS := zw_mem 466 (by decide +kernel) (by decide +kernel)
theorem zw467 : Cond.methodLink RX8 90 yX3_append ∈ WS := zw_mem 467 (by decide +kernel) (by decide +kernel)
theorem zw468 : Cond.instanceMethod yX3_append ∈ WS := zw_mem 468 (by decide +kernel) (by decide +kernel)
theorem zw469 : Cond.selects RX3 yX3_append yX3_append ∈ WS := zw_mem 469 (by decide +kernel) (by decide +kernel)
theorem zw470 : Cond.code yX3_append cX3_append 3 none ∈ WS := zw_mem 470 (by decide +kernel) (by decide +kernel)
theorem zw472 : Cond.static yX11_isUnder ∈ WS := zw_mem 472 (by decide +kernel) (by decide +kernel)
theorem zw473 : Cond.code yX11_isUnder cX11_isUnder 4 (some .boolean) ∈ WS := zw_mem 473 (by decide +kernel) (by decide +kernel)
theorem zw474 : Cond.fieldLink RX11 329 RX11 "ABOVE" "[I" ∈ WS := zw_mem 474 (by decide +kernel) (by decide +kernel)
theorem zw476 : Cond.methodLink RX8 80 yX8_hasWall ∈ WS := zw_mem 476 (by decide +kernel) (by decide +kernel)
theorem zw477 : Cond.methodLink RX8 103 yX3_reverse ∈ WS := zw_mem 477 (by decide +kernel) (by decide +kernel)
theorem zw478 : Cond.instanceMethod yX3_reverse ∈ WS := zw_mem 478 (by decide +kernel) (by decide +kernel)
theorem zw479 : Cond.selects RX3 yX3_reverse yX3_reverse ∈ WS := zw_mem 479 (by decide +kernel) (by decide +kernel)
theorem zw480 : Cond.code yX3_reverse cX3_reverse 4 none ∈ WS := zw_mem 480 (by decide +kernel) (by decide +kernel)
theorem zw481 : Cond.methodLink RX8 106 yX3_leaveOutSeconds ∈ WS := zw_mem 481 (by decide +kernel) (by decide +kernel)
theorem zw482 : Cond.instanceMethod yX3_leaveOutSeconds ∈ WS := zw_mem 482 (by decide +kernel) (by decide +kernel)
theorem zw483 : Cond.selects RX3 yX3_leaveOutSeconds yX3_leaveOutSeconds ∈ WS := zw_mem 483 (by decide +kernel) (by decide +kernel)
theorem zw484 : Cond.code yX3_leaveOutSeconds cX3_leaveOutSeconds 3 none ∈ WS := zw_mem 484 (by decide +kernel) (by decide +kernel)
theorem zw485 : Cond.methodLink RX8 109 yX3_mirrorLetters ∈ WS := zw_mem 485 (by decide +kernel) (by decide +kernel)
theorem zw486 : Cond.instanceMethod yX3_mirrorLetters ∈ WS := zw_mem 486 (by decide +kernel) (by decide +kernel)
theorem zw487 : Cond.selects RX3 yX3_mirrorLetters yX3_mirrorLetters ∈ WS := zw_mem 487 (by decide +kernel) (by decide +kernel)
theorem zw488 : Cond.code yX3_mirrorLetters cX3_mirrorLetters 2 none ∈ WS := zw_mem 488 (by decide +kernel) (by decide +kernel)
theorem zw489 : Cond.methodLink RX8 112 yX6_isTold ∈ WS := zw_mem 489 (by decide +kernel) (by decide +kernel)
theorem zw490 : Cond.instanceMethod yX6_isTold ∈ WS := zw_mem 490 (by decide +kernel) (by decide +kernel)
theorem zw491 : Cond.selects RX6 yX6_isTold yX6_isTold ∈ WS := zw_mem 491 (by decide +kernel) (by decide +kernel)
theorem zw492 : Cond.code yX6_isTold cX6_isTold 1 (some .boolean) ∈ WS := zw_mem 492 (by decide +kernel) (by decide +kernel)
theorem zw493 : Cond.methodLink RX8 116 yX3_turnBy ∈ WS := zw_mem 493 (by decide +kernel) (by decide +kernel)
theorem zw494 : Cond.instanceMethod yX3_turnBy ∈ WS := zw_mem 494 (by decide +kernel) (by decide +kernel)
theorem zw495 : Cond.selects RX3 yX3_turnBy yX3_turnBy ∈ WS := zw_mem 495 (by decide +kernel) (by decide +kernel)
theorem zw496 : Cond.code yX3_turnBy cX3_turnBy 5 none ∈ WS := zw_mem 496 (by decide +kernel) (by decide +kernel)
theorem zw497 : Cond.methodLink RX3 25 yX6_worth ∈ WS := zw_mem 497 (by decide +kernel) (by decide +kernel)
theorem zw498 : Cond.instanceMethod yX6_worth ∈ WS := zw_mem 498 (by decide +kernel) (by decide +kernel)
theorem zw499 : Cond.selects RX6 yX6_worth yX6_worth ∈ WS := zw_mem 499 (by decide +kernel) (by decide +kernel)
theorem zw500 : Cond.code yX6_worth cX6_worth 8 (some .int) ∈ WS := zw_mem 500 (by decide +kernel) (by decide +kernel)
theorem zw501 : Cond.methodLink RX6 31 yX6_joined ∈ WS := zw_mem 501 (by decide +kernel) (by decide +kernel)
theorem zw502 : Cond.static yX6_joined ∈ WS := zw_mem 502 (by decide +kernel) (by decide +kernel)
theorem zw503 : Cond.code yX6_joined cX6_joined 3 (some .int) ∈ WS := zw_mem 503 (by decide +kernel) (by decide +kernel)
theorem zw505 : Cond.static yX11_isLetter ∈ WS := zw_mem 505 (by decide +kernel) (by decide +kernel)
theorem zw506 : Cond.code yX11_isLetter cX11_isLetter 1 (some .boolean) ∈ WS := zw_mem 506 (by decide +kernel) (by decide +kernel)
theorem zw507 : Cond.methodLink RX11 110 yX1_hold ∈ WS := zw_mem 507 (by decide +kernel) (by decide +kernel)
theorem zw508 : Cond.instanceMethod yX1_hold ∈ WS := zw_mem 508 (by decide +kernel) (by decide +kernel)
theorem zw509 : Cond.selects RX1 yX1_hold yX1_hold ∈ WS := zw_mem 509 (by decide +kernel) (by decide +kernel)
theorem zw510 : Cond.code yX1_hold cX1_hold 5 (some .boolean) ∈ WS := zw_mem 510 (by decide +kernel) (by decide +kernel)
theorem zw511 : Cond.methodLink RX1 21 yJ7_fill_53178 ∈ WS := zw_mem 511 (by decide +kernel) (by decide +kernel)
theorem zw512 : Cond.methodLink RX1 40 yX1_leadsToEnd ∈ WS := zw_mem 512 (by decide +kernel) (by decide +kernel)
theorem zw514 : Cond.instanceMethod yX1_leadsToEnd ∈ WS := zw_mem 514 (by decide +kernel) (by decide +kernel)
theorem zw515 : Cond.code yX1_leadsToEnd cX1_leadsToEnd 4 (some .boolean) ∈ WS := zw_mem 515 (by decide +kernel) (by decide +kernel)
theorem zw516 : Cond.methodLink RX1 52 yX10_standsAt ∈ WS := zw_mem 516 (by decide +kernel) (by decide +kernel)
theorem zw517 : Cond.instanceMethod yX10_standsAt ∈ WS := zw_mem 517 (by decide +kernel) (by decide +kernel)
theorem zw518 : Cond.selects RX10 yX10_standsAt yX10_standsAt ∈ WS := zw_mem 518 (by decide +kernel) (by decide +kernel)
theorem zw519 : Cond.code yX10_standsAt cX10_standsAt 4 (some .boolean) ∈ WS := zw_mem 519 (by decide +kernel) (by decide +kernel)
theorem zw524 : Cond.methodLink RX11 114 yX1_countWays ∈ WS := zw_mem 524 (by decide +kernel) (by decide +kernel)
theorem zw525 : Cond.instanceMethod yX1_countWays ∈ WS := zw_mem 525 (by decide +kernel) (by decide +kernel)
theorem zw526 : Cond.selects RX1 yX1_countWays yX1_countWays ∈ WS := zw_mem 526 (by decide +kernel) (by decide +kernel)
theorem zw527 : Cond.code yX1_countWays cX1_countWays 3 (some .int) ∈ WS := zw_mem 527 (by decide +kernel) (by decide +kernel)
theorem zw528 : Cond.methodLink RX1 81 yX1_countFromBegin ∈ WS := zw_mem 528 (by decide +kernel) (by decide +kernel)
theorem zw530 : Cond.instanceMethod yX1_countFromBegin ∈ WS := zw_mem 530 (by decide +kernel) (by decide +kernel)
theorem zw531 : Cond.code yX1_countFromBegin cX1_countFromBegin 7 none ∈ WS := zw_mem 531 (by decide +kernel) (by decide +kernel)
theorem zw532 : Cond.constant RX1 77 (999999) ∈ WS := zw_mem 532 (by decide +kernel) (by decide +kernel)
theorem zw533 : Cond.methodLink RX1 78 yX1_waysInto ∈ WS := zw_mem 533 (by decide +kernel) (by decide +kernel)
theorem zw535 : Cond.instanceMethod yX1_waysInto ∈ WS := zw_mem 535 (by decide +kernel) (by decide +kernel)
theorem zw536 : Cond.code yX1_waysInto cX1_waysInto 5 (some .int) ∈ WS := zw_mem 536 (by decide +kernel) (by decide +kernel)
theorem zw537 : Cond.methodLink RX1 71 Lib.Math.min.name ∈ WS := zw_mem 537 (by decide +kernel) (by decide +kernel)
theorem zw538 : Cond.static Lib.Math.min.name ∈ WS := zw_mem 538 (by decide +kernel) (by decide +kernel)
theorem zw539 : Cond.code Lib.Math.min.name Lib.Math.min.code 2 (some .int) ∈ WS := zw_mem 539 (by decide +kernel) (by decide +kernel)
theorem zw540 : Cond.methodLink RX11 118 yX1_stuckAt ∈ WS := zw_mem 540 (by decide +kernel) (by decide +kernel)
theorem zw541 : Cond.instanceMethod yX1_stuckAt ∈ WS := zw_mem 541 (by decide +kernel) (by decide +kernel)
theorem zw542 : Cond.selects RX1 yX1_stuckAt yX1_stuckAt ∈ WS := zw_mem 542 (by decide +kernel) (by decide +kernel)
theorem zw543 : Cond.code yX1_stuckAt cX1_stuckAt 5 (some .int) ∈ WS := zw_mem 543 (by decide +kernel) (by decide +kernel)
theorem zw544 : Cond.methodLink RX11 121 yX8_costOf ∈ WS := zw_mem 544 (by decide +kernel) (by decide +kernel)
theorem zw545 : Cond.instanceMethod yX8_costOf ∈ WS := zw_mem 545 (by decide +kernel) (by decide +kernel)
theorem zw546 : Cond.selects RX8 yX8_costOf yX8_costOf ∈ WS := zw_mem 546 (by decide +kernel) (by decide +kernel)
theorem zw547 : Cond.code yX8_costOf cX8_costOf 4 (some .int) ∈ WS := zw_mem 547 (by decide +kernel) (by decide +kernel)
theorem zw548 : Cond.methodLink RX8 136 yX8_priceOf ∈ WS := zw_mem 548 (by decide +kernel) (by decide +kernel)
theorem zw549 : Cond.instanceMethod yX8_priceOf ∈ WS := zw_mem 549 (by decide +kernel) (by decide +kernel)
theorem zw550 : Cond.selects RX8 yX8_priceOf yX8_priceOf ∈ WS := zw_mem 550 (by decide +kernel) (by decide +kernel)
theorem zw551 : Cond.code yX8_priceOf cX8_priceOf 3 (some .int) ∈ WS := zw_mem 551 (by decide +kernel) (by decide +kernel)
theorem zw552 : Cond.methodLink RX8 120 yX6_worth ∈ WS := zw_mem 552 (by decide +kernel) (by decide +kernel)
theorem zw553 : Cond.methodLink RX8 124 Lib.Math.min.name ∈ WS := zw_mem 553 (by decide +kernel) (by decide +kernel)
theorem zw554 : Cond.methodLink RX8 130 Lib.Math.max.name ∈ WS := zw_mem 554 (by decide +kernel) (by decide +kernel)
theorem zw555 : Cond.static Lib.Math.max.name ∈ WS := zw_mem 555 (by decide +kernel) (by decide +kernel)
theorem zw556 : Cond.code Lib.Math.max.name Lib.Math.max.code 2 (some .int) ∈ WS := zw_mem 556 (by decide +kernel) (by decide +kernel)
theorem zw561 : Cond.methodLink RX11 125 yX11_isUnder ∈ WS := zw_mem 561 (by decide +kernel) (by decide +kernel)
theorem zw570 : Cond.methodLink RX11 129 yX8_hasPlace ∈ WS := zw_mem 570 (by decide +kernel) (by decide +kernel)
theorem zw571 : Cond.instanceMethod yX8_hasPlace ∈ WS := zw_mem 571 (by decide +kernel) (by decide +kernel)
theorem zw572 : Cond.selects RX8 yX8_hasPlace yX8_hasPlace ∈ WS := zw_mem 572 (by decide +kernel) (by decide +kernel)
theorem zw573 : Cond.code yX8_hasPlace cX8_hasPlace 3 (some .boolean) ∈ WS := zw_mem 573 (by decide +kernel) (by decide +kernel)
theorem zw586 : Cond.methodLink RX11 138 yX11_isLetter ∈ WS := zw_mem 586 (by decide +kernel) (by decide +kernel)
theorem zw587 : Cond.methodLink RX11 148 yX10_begin ∈ WS := zw_mem 587 (by decide +kernel) (by decide +kernel)
theorem zw588 : Cond.instanceMethod yX10_begin ∈ WS := zw_mem 588 (by decide +kernel) (by decide +kernel)
theorem zw589 : Cond.selects RX10 yX10_begin yX10_begin ∈ WS := zw_mem 589 (by decide +kernel) (by decide +kernel)
theorem zw590 : Cond.code yX10_begin cX10_begin 3 none ∈ WS := zw_mem 590 (by decide +kernel) (by decide +kernel)
theorem zw595 : Cond.methodLink RX11 153 yX7_has ∈ WS := zw_mem 595 (by decide +kernel) (by decide +kernel)
theorem zw596 : Cond.instanceMethod yX7_has ∈ WS := zw_mem 596 (by decide +kernel) (by decide +kernel)
theorem zw597 : Cond.selects RX7 yX7_has yX7_has ∈ WS := zw_mem 597 (by decide +kernel) (by decide +kernel)
theorem zw598 : Cond.code yX7_has cX7_has 2 (some .boolean) ∈ WS := zw_mem 598 (by decide +kernel) (by decide +kernel)
theorem zw613 : Cond.methodLink RX11 171 yX2_faultOf ∈ WS := zw_mem 613 (by decide +kernel) (by decide +kernel)
theorem zw614 : Cond.instanceMethod yX2_faultOf ∈ WS := zw_mem 614 (by decide +kernel) (by decide +kernel)
theorem zw615 : Cond.selects RX2 yX2_faultOf yX2_faultOf ∈ WS := zw_mem 615 (by decide +kernel) (by decide +kernel)
theorem zw616 : Cond.code yX2_faultOf cX2_faultOf 4 (some .int) ∈ WS := zw_mem 616 (by decide +kernel) (by decide +kernel)
theorem zw617 : Cond.methodLink RX2 24 arraycopyName ∈ WS := zw_mem 617 (by decide +kernel) (by decide +kernel)
theorem zw618 : Cond.static arraycopyName ∈ WS := zw_mem 618 (by decide +kernel) (by decide +kernel)
theorem zw619 : Cond.native arraycopyName ∈ WS := zw_mem 619 (by decide +kernel) (by decide +kernel)
theorem zw620 : Cond.methodLink RX2 43 yX2_level ∈ WS := zw_mem 620 (by decide +kernel) (by decide +kernel)
theorem zw622 : Cond.instanceMethod yX2_level ∈ WS := zw_mem 622 (by decide +kernel) (by decide +kernel)
theorem zw623 : Cond.code yX2_level cX2_level 6 none ∈ WS := zw_mem 623 (by decide +kernel) (by decide +kernel)
theorem zw624 : Cond.methodLink RX2 54 yX2_operand ∈ WS := zw_mem 624 (by decide +kernel) (by decide +kernel)
theorem zw626 : Cond.instanceMethod yX2_operand ∈ WS := zw_mem 626 (by decide +kernel) (by decide +kernel)
theorem zw627 : Cond.code yX2_operand cX2_operand 3 none ∈ WS := zw_mem 627 (by decide +kernel) (by decide +kernel)
theorem zw628 : Cond.methodLink RX2 58 yX2_next ∈ WS := zw_mem 628 (by decide +kernel) (by decide +kernel)
theorem zw630 : Cond.instanceMethod yX2_next ∈ WS := zw_mem 630 (by decide +kernel) (by decide +kernel)
theorem zw631 : Cond.code yX2_next cX2_next 1 (some .int) ∈ WS := zw_mem 631 (by decide +kernel) (by decide +kernel)
theorem zw632 : Cond.methodLink RX2 69 yX2_isDigit ∈ WS := zw_mem 632 (by decide +kernel) (by decide +kernel)
theorem zw633 : Cond.static yX2_isDigit ∈ WS := zw_mem 633 (by decide +kernel) (by decide +kernel)
theorem zw634 : Cond.code yX2_isDigit cX2_isDigit 1 (some .boolean) ∈ WS := zw_mem 634 (by decide +kernel) (by decide +kernel)
theorem zw635 : Cond.methodLink RX2 73 yX2_number ∈ WS := zw_mem 635 (by decide +kernel) (by decide +kernel)
theorem zw637 : Cond.instanceMethod yX2_number ∈ WS := zw_mem 637 (by decide +kernel) (by decide +kernel)
theorem zw638 : Cond.code yX2_number cX2_number 3 none ∈ WS := zw_mem 638 (by decide +kernel) (by decide +kernel)
theorem zw639 : Cond.methodLink RX2 66 yX2_emit ∈ WS := zw_mem 639 (by decide +kernel) (by decide +kernel)
theorem zw641 : Cond.instanceMethod yX2_emit ∈ WS := zw_mem 641 (by decide +kernel) (by decide +kernel)
theorem zw642 : Cond.code yX2_emit cX2_emit 2 none ∈ WS := zw_mem 642 (by decide +kernel) (by decide +kernel)
theorem zw725 : Cond.methodLink RX2 81 yX2_close ∈ WS := zw_mem 725 (by decide +kernel) (by decide +kernel)
theorem zw727 : Cond.instanceMethod yX2_close ∈ WS := zw_mem 727 (by decide +kernel) (by decide +kernel)
theorem zw728 : Cond.code yX2_close cX2_close 1 none ∈ WS := zw_mem 728 (by decide +kernel) (by decide +kernel)
theorem zw729 : Cond.methodLink RX2 47 yX2_failHere ∈ WS := zw_mem 729 (by decide +kernel) (by decide +kernel)
theorem zw731 : Cond.instanceMethod yX2_failHere ∈ WS := zw_mem 731 (by decide +kernel) (by decide +kernel)
theorem zw732 : Cond.code yX2_failHere cX2_failHere 1 none ∈ WS := zw_mem 732 (by decide +kernel) (by decide +kernel)
theorem zw733 : Cond.methodLink RX2 62 yX2_rankOf ∈ WS := zw_mem 733 (by decide +kernel) (by decide +kernel)
theorem zw734 : Cond.static yX2_rankOf ∈ WS := zw_mem 734 (by decide +kernel) (by decide +kernel)
theorem zw735 : Cond.code yX2_rankOf cX2_rankOf 1 (some .int) ∈ WS := zw_mem 735 (by decide +kernel) (by decide +kernel)
theorem zw736 : Cond.methodLink RX11 175 yX8_textOf ∈ WS := zw_mem 736 (by decide +kernel) (by decide +kernel)
theorem zw737 : Cond.instanceMethod yX8_textOf ∈ WS := zw_mem 737 (by decide +kernel) (by decide +kernel)
theorem zw738 : Cond.selects RX8 yX8_textOf yX8_textOf ∈ WS := zw_mem 738 (by decide +kernel) (by decide +kernel)
theorem zw739 : Cond.code yX8_textOf cX8_textOf 2 (some (.object "LetterWalls$Text")) ∈ WS := zw_mem 739 (by decide +kernel) (by decide +kernel)
theorem zw740 : Cond.methodLink RX11 179 yX2_handTo ∈ WS := zw_mem 740 (by decide +kernel) (by decide +kernel)
theorem zw741 : Cond.instanceMethod yX2_handTo ∈ WS := zw_mem 741 (by decide +kernel) (by decide +kernel)
theorem zw742 : Cond.selects RX2 yX2_handTo yX2_handTo ∈ WS := zw_mem 742 (by decide +kernel) (by decide +kernel)
theorem zw743 : Cond.code yX2_handTo cX2_handTo 2 none ∈ WS := zw_mem 743 (by decide +kernel) (by decide +kernel)
theorem zw748 : Cond.methodLink RX11 183 yX6_isTold ∈ WS := zw_mem 748 (by decide +kernel) (by decide +kernel)
theorem zw753 : Cond.methodLink RX11 190 yX1_find ∈ WS := zw_mem 753 (by decide +kernel) (by decide +kernel)
theorem zw754 : Cond.instanceMethod yX1_find ∈ WS := zw_mem 754 (by decide +kernel) (by decide +kernel)
theorem zw755 : Cond.selects RX1 yX1_find yX1_find ∈ WS := zw_mem 755 (by decide +kernel) (by decide +kernel)
theorem zw756 : Cond.code yX1_find cX1_find 7 (some .boolean) ∈ WS := zw_mem 756 (by decide +kernel) (by decide +kernel)
theorem zw757 : Cond.methodLink RX1 63 yX1_hold ∈ WS := zw_mem 757 (by decide +kernel) (by decide +kernel)
theorem zw758 : Cond.methodLink RX1 67 yX1_lowestThatLeadsOn ∈ WS := zw_mem 758 (by decide +kernel) (by decide +kernel)
theorem zw760 : Cond.instanceMethod yX1_lowestThatLeadsOn ∈ WS := zw_mem 760 (by decide +kernel) (by decide +kernel)
theorem zw761 : Cond.code yX1_lowestThatLeadsOn cX1_lowestThatLeadsOn 7 (some .int) ∈ WS := zw_mem 761 (by decide +kernel) (by decide +kernel)
theorem zw766 : Cond.methodLink RX11 199 yX9_copyFrom ∈ WS := zw_mem 766 (by decide +kernel) (by decide +kernel)
theorem zw767 : Cond.instanceMethod yX9_copyFrom ∈ WS := zw_mem 767 (by decide +kernel) (by decide +kernel)
theorem zw768 : Cond.selects RX9 yX9_copyFrom yX9_copyFrom ∈ WS := zw_mem 768 (by decide +kernel) (by decide +kernel)
theorem zw769 : Cond.code yX9_copyFrom cX9_copyFrom 2 none ∈ WS := zw_mem 769 (by decide +kernel) (by decide +kernel)
theorem zw770 : Cond.methodLink RX9 31 arraycopyName ∈ WS := zw_mem 770 (by decide +kernel) (by decide +kernel)
theorem zw771 : Cond.methodLink RX11 203 yX9_openFrom ∈ WS := zw_mem 771 (by decide +kernel) (by decide +kernel)
theorem zw772 : Cond.instanceMethod yX9_openFrom ∈ WS := zw_mem 772 (by decide +kernel) (by decide +kernel)
theorem zw773 : Cond.selects RX9 yX9_openFrom yX9_openFrom ∈ WS := zw_mem 773 (by decide +kernel) (by decide +kernel)
theorem zw774 : Cond.code yX9_openFrom cX9_openFrom 5 none ∈ WS := zw_mem 774 (by decide +kernel) (by decide +kernel)
theorem zw775 : Cond.methodLink RX9 37 Lib.Math.min.name ∈ WS := zw_mem 775 (by decide +kernel) (by decide +kernel)
theorem zw776 : Cond.methodLink RX9 43 Lib.Math.max.name ∈ WS := zw_mem 776 (by decide +kernel) (by decide +kernel)
theorem zw781 : Cond.methodLink RX11 206 yX11_readsWith ∈ WS := zw_mem 781 (by decide +kernel) (by decide +kernel)
theorem zw783 : Cond.instanceMethod yX11_readsWith ∈ WS := zw_mem 783 (by decide +kernel) (by decide +kernel)
theorem zw784 : Cond.code yX11_readsWith cX11_readsWith 4 (some .boolean) ∈ WS := zw_mem 784 (by decide +kernel) (by decide +kernel)
theorem zw789 : Cond.methodLink RX11 210 yX11_othersAt ∈ WS := zw_mem 789 (by decide +kernel) (by decide +kernel)
theorem zw791 : Cond.instanceMethod yX11_othersAt ∈ WS := zw_mem 791 (by decide +kernel) (by decide +kernel)
theorem zw792 : Cond.code yX11_othersAt cX11_othersAt 6 (some .int) ∈ WS := zw_mem 792 (by decide +kernel) (by decide +kernel)
theorem zw797 : Cond.methodLink RX11 214 yJ6_bitCount_0f7a4 ∈ WS := zw_mem 797 (by decide +kernel) (by decide +kernel)
theorem zw798 : Cond.static yJ6_bitCount_0f7a4 ∈ WS := zw_mem 798 (by decide +kernel) (by decide +kernel)
theorem zw799 : Cond.code yJ6_bitCount_0f7a4 cJ6_bitCount_0f7a4 1 (some .int) ∈ WS := zw_mem 799 (by decide +kernel) (by decide +kernel)
theorem zw800 : Cond.constant RJ6 265 (1431655765) ∈ WS := zw_mem 800 (by decide +kernel) (by decide +kernel)
theorem zw801 : Cond.constant RJ6 266 (858993459) ∈ WS := zw_mem 801 (by decide +kernel) (by decide +kernel)
theorem zw802 : Cond.constant RJ6 267 (252645135) ∈ WS := zw_mem 802 (by decide +kernel) (by decide +kernel)
theorem zw807 : Cond.methodLink RX11 219 yX1_fewestUnlike ∈ WS := zw_mem 807 (by decide +kernel) (by decide +kernel)
theorem zw808 : Cond.instanceMethod yX1_fewestUnlike ∈ WS := zw_mem 808 (by decide +kernel) (by decide +kernel)
theorem zw809 : Cond.selects RX1 yX1_fewestUnlike yX1_fewestUnlike ∈ WS := zw_mem 809 (by decide +kernel) (by decide +kernel)
theorem zw810 : Cond.code yX1_fewestUnlike cX1_fewestUnlike 8 (some .int) ∈ WS := zw_mem 810 (by decide +kernel) (by decide +kernel)
theorem zw811 : Cond.constant RX1 85 (1000000) ∈ WS := zw_mem 811 (by decide +kernel) (by decide +kernel)
theorem zw812 : Cond.methodLink RX1 86 yX1_leastInto ∈ WS := zw_mem 812 (by decide +kernel) (by decide +kernel)
theorem zw814 : Cond.instanceMethod yX1_leastInto ∈ WS := zw_mem 814 (by decide +kernel) (by decide +kernel)
theorem zw815 : Cond.code yX1_leastInto cX1_leastInto 5 (some .int) ∈ WS := zw_mem 815 (by decide +kernel) (by decide +kernel)
theorem zw816 : Cond.methodLink RX1 89 yX10_unlikeAt ∈ WS := zw_mem 816 (by decide +kernel) (by decide +kernel)
theorem zw817 : Cond.instanceMethod yX10_unlikeAt ∈ WS := zw_mem 817 (by decide +kernel) (by decide +kernel)
theorem zw818 : Cond.selects RX10 yX10_unlikeAt yX10_unlikeAt ∈ WS := zw_mem 818 (by decide +kernel) (by decide +kernel)
theorem zw819 : Cond.code yX10_unlikeAt cX10_unlikeAt 5 (some .int) ∈ WS := zw_mem 819 (by decide +kernel) (by decide +kernel)
theorem zw820 : Cond.constant RX10 32 (1000000) ∈ WS := zw_mem 820 (by decide +kernel) (by decide +kernel)
theorem zw821 : Cond.constant RX11 222 (1000000) ∈ WS := zw_mem 821 (by decide +kernel) (by decide +kernel)
theorem zw826 : Cond.methodLink RX11 223 yX11_isSheet ∈ WS := zw_mem 826 (by decide +kernel) (by decide +kernel)
theorem zw827 : Cond.static yX11_isSheet ∈ WS := zw_mem 827 (by decide +kernel) (by decide +kernel)
theorem zw828 : Cond.code yX11_isSheet cX11_isSheet 1 (some .boolean) ∈ WS := zw_mem 828 (by decide +kernel) (by decide +kernel)
theorem zw829 : Cond.methodLink RX11 226 yX4_isMissing ∈ WS := zw_mem 829 (by decide +kernel) (by decide +kernel)
theorem zw830 : Cond.instanceMethod yX4_isMissing ∈ WS := zw_mem 830 (by decide +kernel) (by decide +kernel)
theorem zw831 : Cond.selects RX4 yX4_isMissing yX4_isMissing ∈ WS := zw_mem 831 (by decide +kernel) (by decide +kernel)
theorem zw832 : Cond.code yX4_isMissing cX4_isMissing 1 (some .boolean) ∈ WS := zw_mem 832 (by decide +kernel) (by decide +kernel)
theorem zw833 : Cond.methodLink RX11 233 yX11_unlikeWish ∈ WS := zw_mem 833 (by decide +kernel) (by decide +kernel)
theorem zw835 : Cond.instanceMethod yX11_unlikeWish ∈ WS := zw_mem 835 (by decide +kernel) (by decide +kernel)
theorem zw836 : Cond.code yX11_unlikeWish cX11_unlikeWish 7 (some .int) ∈ WS := zw_mem 836 (by decide +kernel) (by decide +kernel)
theorem zw837 : Cond.methodLink RX11 332 yX10_unlikeAt ∈ WS := zw_mem 837 (by decide +kernel) (by decide +kernel)
theorem zw846 : Cond.methodLink RX11 240 yX8_priceOf ∈ WS := zw_mem 846 (by decide +kernel) (by decide +kernel)
theorem zw851 : Cond.constant RX11 243 (99999) ∈ WS := zw_mem 851 (by decide +kernel) (by decide +kernel)
theorem zw856 : Cond.methodLink RX11 250 yX9_countLetters ∈ WS := zw_mem 856 (by decide +kernel) (by decide +kernel)
theorem zw857 : Cond.instanceMethod yX9_countLetters ∈ WS := zw_mem 857 (by decide +kernel) (by decide +kernel)
theorem zw858 : Cond.selects RX9 yX9_countLetters yX9_countLetters ∈ WS := zw_mem 858 (by decide +kernel) (by decide +kernel)
theorem zw859 : Cond.code yX9_countLetters cX9_countLetters 3 (some .int) ∈ WS := zw_mem 859 (by decide +kernel) (by decide +kernel)
theorem zw864 : Cond.methodLink RX11 254 yX8_dropBrick ∈ WS := zw_mem 864 (by decide +kernel) (by decide +kernel)
theorem zw865 : Cond.instanceMethod yX8_dropBrick ∈ WS := zw_mem 865 (by decide +kernel) (by decide +kernel)
theorem zw866 : Cond.selects RX8 yX8_dropBrick yX8_dropBrick ∈ WS := zw_mem 866 (by decide +kernel) (by decide +kernel)
theorem zw867 : Cond.code yX8_dropBrick cX8_dropBrick 4 none ∈ WS := zw_mem 867 (by decide +kernel) (by decide +kernel)
theorem zw872 : Cond.methodLink RX11 258 yX0_search ∈ WS := zw_mem 872 (by decide +kernel) (by decide +kernel)
theorem zw873 : Cond.instanceMethod yX0_search ∈ WS := zw_mem 873 (by decide +kernel) (by decide +kernel)
theorem zw874 : Cond.selects RX0 yX0_search yX0_search ∈ WS := zw_mem 874 (by decide +kernel) (by decide +kernel)
theorem zw875 : Cond.code yX0_search cX0_search 4 none ∈ WS := zw_mem 875 (by decide +kernel) (by decide +kernel)
theorem zw876 : Cond.methodLink RX0 15 arraycopyName ∈ WS := zw_mem 876 (by decide +kernel) (by decide +kernel)
theorem zw877 : Cond.methodLink RX0 25 Lib.Math.min.name ∈ WS := zw_mem 877 (by decide +kernel) (by decide +kernel)
theorem zw878 : Cond.methodLink RX0 44 yX0_extend ∈ WS := zw_mem 878 (by decide +kernel) (by decide +kernel)
theorem zw880 : Cond.instanceMethod yX0_extend ∈ WS := zw_mem 880 (by decide +kernel) (by decide +kernel)
theorem zw881 : Cond.code yX0_extend cX0_extend 6 none ∈ WS := zw_mem 881 (by decide +kernel) (by decide +kernel)
theorem zw882 : Cond.methodLink RX0 48 yX0_note ∈ WS := zw_mem 882 (by decide +kernel) (by decide +kernel)
theorem zw884 : Cond.instanceMethod yX0_note ∈ WS := zw_mem 884 (by decide +kernel) (by decide +kernel)
theorem zw885 : Cond.code yX0_note cX0_note 3 none ∈ WS := zw_mem 885 (by decide +kernel) (by decide +kernel)
theorem zw887 : Cond.methodLink RX0 69 yX0_take ∈ WS := zw_mem 887 (by decide +kernel) (by decide +kernel)
theorem zw889 : Cond.instanceMethod yX0_take ∈ WS := zw_mem 889 (by decide +kernel) (by decide +kernel)
theorem zw890 : Cond.code yX0_take cX0_take 4 (some .boolean) ∈ WS := zw_mem 890 (by decide +kernel) (by decide +kernel)
theorem zw892 : Cond.methodLink RX0 76 yX0_giveBack ∈ WS := zw_mem 892 (by decide +kernel) (by decide +kernel)
theorem zw894 : Cond.instanceMethod yX0_giveBack ∈ WS := zw_mem 894 (by decide +kernel) (by decide +kernel)
theorem zw895 : Cond.code yX0_giveBack cX0_giveBack 3 none ∈ WS := zw_mem 895 (by decide +kernel) (by decide +kernel)
theorem zw900 : Cond.methodLink RX11 268 yX11_passYear ∈ WS := zw_mem 900 (by decide +kernel) (by decide +kernel)
theorem zw902 : Cond.instanceMethod yX11_passYear ∈ WS := zw_mem 902 (by decide +kernel) (by decide +kernel)
theorem zw903 : Cond.code yX11_passYear cX11_passYear 5 (some .int) ∈ WS := zw_mem 903 (by decide +kernel) (by decide +kernel)
theorem zw904 : Cond.methodLink RX11 336 yX8_draw ∈ WS := zw_mem 904 (by decide +kernel) (by decide +kernel)
theorem zw905 : Cond.instanceMethod yX8_draw ∈ WS := zw_mem 905 (by decide +kernel) (by decide +kernel)
theorem zw906 : Cond.selects RX8 yX8_draw yX8_draw ∈ WS := zw_mem 906 (by decide +kernel) (by decide +kernel)
theorem zw907 : Cond.code yX8_draw cX8_draw 1 (some .int) ∈ WS := zw_mem 907 (by decide +kernel) (by decide +kernel)
theorem zw908 : Cond.constant RX8 140 (1103515245) ∈ WS := zw_mem 908 (by decide +kernel) (by decide +kernel)
theorem zw909 : Cond.methodLink RX11 304 Lib.Math.min.name ∈ WS := zw_mem 909 (by decide +kernel) (by decide +kernel)
theorem zw918 : Cond.methodLink RX11 274 yX5_answer ∈ WS := zw_mem 918 (by decide +kernel) (by decide +kernel)
theorem zw919 : Cond.instanceMethod yX5_answer ∈ WS := zw_mem 919 (by decide +kernel) (by decide +kernel)
theorem zw920 : Cond.selects RX5 yX5_answer yX5_answer ∈ WS := zw_mem 920 (by decide +kernel) (by decide +kernel)
theorem zw921 : Cond.code yX5_answer cX5_answer 5 (some .int) ∈ WS := zw_mem 921 (by decide +kernel) (by decide +kernel)
theorem zw922 : Cond.methodLink RX5 36 yX5_speak ∈ WS := zw_mem 922 (by decide +kernel) (by decide +kernel)
theorem zw924 : Cond.instanceMethod yX5_speak ∈ WS := zw_mem 924 (by decide +kernel) (by decide +kernel)
theorem zw925 : Cond.code yX5_speak cX5_speak 8 (some .int) ∈ WS := zw_mem 925 (by decide +kernel) (by decide +kernel)
theorem zw928 : Cond.methodLink RX5 43 yX5_note ∈ WS := zw_mem 928 (by decide +kernel) (by decide +kernel)
theorem zw930 : Cond.instanceMethod yX5_note ∈ WS := zw_mem 930 (by decide +kernel) (by decide +kernel)
theorem zw931 : Cond.code yX5_note cX5_note 2 none ∈ WS := zw_mem 931 (by decide +kernel) (by decide +kernel)
theorem zw933 : Cond.methodLink RX5 50 yX5_sound ∈ WS := zw_mem 933 (by decide +kernel) (by decide +kernel)
theorem zw935 : Cond.instanceMethod yX5_sound ∈ WS := zw_mem 935 (by decide +kernel) (by decide +kernel)
theorem zw936 : Cond.code yX5_sound cX5_sound 5 (some .int) ∈ WS := zw_mem 936 (by decide +kernel) (by decide +kernel)
theorem zw937 : Cond.methodLink RX5 53 yX5_quotient ∈ WS := zw_mem 937 (by decide +kernel) (by decide +kernel)
theorem zw939 : Cond.instanceMethod yX5_quotient ∈ WS := zw_mem 939 (by decide +kernel) (by decide +kernel)
theorem zw940 : Cond.code yX5_quotient cX5_quotient 3 (some .int) ∈ WS := zw_mem 940 (by decide +kernel) (by decide +kernel)
theorem zw949 : Cond.methodLink RX11 288 yX4_begin ∈ WS := zw_mem 949 (by decide +kernel) (by decide +kernel)
theorem zw950 : Cond.instanceMethod yX4_begin ∈ WS := zw_mem 950 (by decide +kernel) (by decide +kernel)
theorem zw951 : Cond.selects RX4 yX4_begin yX4_begin ∈ WS := zw_mem 951 (by decide +kernel) (by decide +kernel)
theorem zw952 : Cond.code yX4_begin cX4_begin 3 none ∈ WS := zw_mem 952 (by decide +kernel) (by decide +kernel)
theorem zw953 : Cond.methodLink RX4 22 yJ7_fill_53178 ∈ WS := zw_mem 953 (by decide +kernel) (by decide +kernel)
theorem zw958 : Cond.methodLink RX11 289 yX4_write ∈ WS := zw_mem 958 (by decide +kernel) (by decide +kernel)
theorem zw959 : Cond.instanceMethod yX4_write ∈ WS := zw_mem 959 (by decide +kernel) (by decide +kernel)
theorem zw960 : Cond.selects RX4 yX4_write yX4_write ∈ WS := zw_mem 960 (by decide +kernel) (by decide +kernel)
theorem zw961 : Cond.code yX4_write cX4_write 3 none ∈ WS := zw_mem 961 (by decide +kernel) (by decide +kernel)
theorem zw966 : Cond.methodLink RX11 295 yX4_holds ∈ WS := zw_mem 966 (by decide +kernel) (by decide +kernel)
theorem zw967 : Cond.instanceMethod yX4_holds ∈ WS := zw_mem 967 (by decide +kernel) (by decide +kernel)
theorem zw968 : Cond.selects RX4 yX4_holds yX4_holds ∈ WS := zw_mem 968 (by decide +kernel) (by decide +kernel)
theorem zw969 : Cond.code yX4_holds cX4_holds 3 (some .boolean) ∈ WS := zw_mem 969 (by decide +kernel) (by decide +kernel)
theorem zw970 : Cond.methodLink RX11 298 arraycopyName ∈ WS := zw_mem 970 (by decide +kernel) (by decide +kernel)
theorem zw979 : Cond.methodLink RX11 309 yX8_copyFrom ∈ WS := zw_mem 979 (by decide +kernel) (by decide +kernel)
theorem zw980 : Cond.instanceMethod yX8_copyFrom ∈ WS := zw_mem 980 (by decide +kernel) (by decide +kernel)
theorem zw981 : Cond.selects RX8 yX8_copyFrom yX8_copyFrom ∈ WS := zw_mem 981 (by decide +kernel) (by decide +kernel)
theorem zw982 : Cond.code yX8_copyFrom cX8_copyFrom 3 none ∈ WS := zw_mem 982 (by decide +kernel) (by decide +kernel)
theorem zw983 : Cond.methodLink RX8 52 yX9_copyFrom ∈ WS := zw_mem 983 (by decide +kernel) (by decide +kernel)
theorem zw984 : Cond.methodLink RX8 56 yX7_copyFrom ∈ WS := zw_mem 984 (by decide +kernel) (by decide +kernel)
theorem zw985 : Cond.instanceMethod yX7_copyFrom ∈ WS := zw_mem 985 (by decide +kernel) (by decide +kernel)
theorem zw986 : Cond.selects RX7 yX7_copyFrom yX7_copyFrom ∈ WS := zw_mem 986 (by decide +kernel) (by decide +kernel)
theorem zw987 : Cond.code yX7_copyFrom cX7_copyFrom 3 none ∈ WS := zw_mem 987 (by decide +kernel) (by decide +kernel)
theorem zw988 : Cond.methodLink RX7 22 yX10_copyFrom ∈ WS := zw_mem 988 (by decide +kernel) (by decide +kernel)
theorem zw989 : Cond.instanceMethod yX10_copyFrom ∈ WS := zw_mem 989 (by decide +kernel) (by decide +kernel)
theorem zw990 : Cond.selects RX10 yX10_copyFrom yX10_copyFrom ∈ WS := zw_mem 990 (by decide +kernel) (by decide +kernel)
theorem zw991 : Cond.code yX10_copyFrom cX10_copyFrom 2 none ∈ WS := zw_mem 991 (by decide +kernel) (by decide +kernel)
theorem zw992 : Cond.methodLink RX10 22 arraycopyName ∈ WS := zw_mem 992 (by decide +kernel) (by decide +kernel)
theorem zw993 : Cond.methodLink RX8 59 yX6_copyFrom ∈ WS := zw_mem 993 (by decide +kernel) (by decide +kernel)
theorem zw994 : Cond.instanceMethod yX6_copyFrom ∈ WS := zw_mem 994 (by decide +kernel) (by decide +kernel)
theorem zw995 : Cond.selects RX6 yX6_copyFrom yX6_copyFrom ∈ WS := zw_mem 995 (by decide +kernel) (by decide +kernel)
theorem zw996 : Cond.code yX6_copyFrom cX6_copyFrom 2 none ∈ WS := zw_mem 996 (by decide +kernel) (by decide +kernel)
theorem zw997 : Cond.methodLink RX6 25 arraycopyName ∈ WS := zw_mem 997 (by decide +kernel) (by decide +kernel)
theorem zw998 : Cond.methodLink RX8 62 arraycopyName ∈ WS := zw_mem 998 (by decide +kernel) (by decide +kernel)
theorem zw1011 : Cond.methodLink RX11 321 yX1_firstNotSaid ∈ WS := zw_mem 1011 (by decide +kernel) (by decide +kernel)
theorem zw1012 : Cond.instanceMethod yX1_firstNotSaid ∈ WS := zw_mem 1012 (by decide +kernel) (by decide +kernel)
theorem zw1013 : Cond.selects RX1 yX1_firstNotSaid yX1_firstNotSaid ∈ WS := zw_mem 1013 (by decide +kernel) (by decide +kernel)
theorem zw1014 : Cond.code yX1_firstNotSaid cX1_firstNotSaid 5 (some .int) ∈ WS := zw_mem 1014 (by decide +kernel) (by decide +kernel)
theorem zw1019 : Cond.methodLink RX11 325 yX8_countHeap ∈ WS := zw_mem 1019 (by decide +kernel) (by decide +kernel)
theorem zw1020 : Cond.instanceMethod yX8_countHeap ∈ WS := zw_mem 1020 (by decide +kernel) (by decide +kernel)
theorem zw1021 : Cond.selects RX8 yX8_countHeap yX8_countHeap ∈ WS := zw_mem 1021 (by decide +kernel) (by decide +kernel)
theorem zw1022 : Cond.code yX8_countHeap cX8_countHeap 3 (some .int) ∈ WS := zw_mem 1022 (by decide +kernel) (by decide +kernel)
theorem zw1033 : Cond.fieldLink RX12 7 RX12 "s" "[I" ∈ WS := zw_mem 1033 (by decide +kernel) (by decide +kernel)
theorem zw1034 : Cond.fieldLink RX12 13 RX12 "kept" "[I" ∈ WS := zw_mem 1034 (by decide +kernel) (by decide +kernel)
theorem zw1035 : Cond.fieldLink RX12 278 RX12 "images" "I" ∈ WS := zw_mem 1035 (by decide +kernel) (by decide +kernel)
theorem zw1036 : Cond.fieldLink RX12 16 RX12 "errors" "[I" ∈ WS := zw_mem 1036 (by decide +kernel) (by decide +kernel)
theorem zw1037 : Cond.fieldLink RX12 70 RX12 "at" "I" ∈ WS := zw_mem 1037 (by decide +kernel) (by decide +kernel)
theorem zw1038 : Cond.fieldLink RX12 104 RX12 "open" "I" ∈ WS := zw_mem 1038 (by decide +kernel) (by decide +kernel)
theorem zw1039 : Cond.fieldLink RX12 77 RX12 "steps" "I" ∈ WS := zw_mem 1039 (by decide +kernel) (by decide +kernel)
theorem zw1040 : Cond.fieldLink RX12 74 RX12 "use" "I" ∈ WS := zw_mem 1040 (by decide +kernel) (by decide +kernel)
theorem zw1041 : Cond.fieldLink RX12 19 RX12 "step" "[I" ∈ WS := zw_mem 1041 (by decide +kernel) (by decide +kernel)
theorem zw1042 : Cond.fieldLink RX12 22 RX12 "named" "[I" ∈ WS := zw_mem 1042 (by decide +kernel) (by decide +kernel)
theorem zw1043 : Cond.fieldLink RX12 25 RX12 "pile" "[I" ∈ WS := zw_mem 1043 (by decide +kernel) (by decide +kernel)
theorem zw1044 : Cond.fieldLink RX12 28 RX12 "row" "[I" ∈ WS := zw_mem 1044 (by decide +kernel) (by decide +kernel)
theorem zw1045 : Cond.fieldLink RX12 126 RX12 "many" "I" ∈ WS := zw_mem 1045 (by decide +kernel) (by decide +kernel)
theorem zw1046 : Cond.fieldLink RX12 31 RX12 "ways" "[I" ∈ WS := zw_mem 1046 (by decide +kernel) (by decide +kernel)
theorem zw1047 : Cond.fieldLink RX12 34 RX12 "said" "[I" ∈ WS := zw_mem 1047 (by decide +kernel) (by decide +kernel)
theorem zw1048 : Cond.fieldLink RX12 170 RX12 "words" "I" ∈ WS := zw_mem 1048 (by decide +kernel) (by decide +kernel)
theorem zw1049 : Cond.fieldLink RX12 37 RX12 "stood" "[I" ∈ WS := zw_mem 1049 (by decide +kernel) (by decide +kernel)
theorem zw1050 : Cond.fieldLink RX12 217 RX12 "built" "I" ∈ WS := zw_mem 1050 (by decide +kernel) (by decide +kernel)
theorem zw1051 : Cond.fieldLink RX12 220 RX12 "first" "I" ∈ WS := zw_mem 1051 (by decide +kernel) (by decide +kernel)
theorem zw1052 : Cond.fieldLink RX12 223 RX12 "firstWords" "I" ∈ WS := zw_mem 1052 (by decide +kernel) (by decide +kernel)
theorem zw1053 : Cond.fieldLink RX12 40 RX12 "trace" "[I" ∈ WS := zw_mem 1053 (by decide +kernel) (by decide +kernel)
theorem zw1054 : Cond.fieldLink RX12 240 RX12 "traced" "I" ∈ WS := zw_mem 1054 (by decide +kernel) (by decide +kernel)
theorem zw1055 : Cond.fieldLink RX12 243 RX12 "speaks" "I" ∈ WS := zw_mem 1055 (by decide +kernel) (by decide +kernel)
theorem zw1056 : Cond.fieldLink RX12 267 RX12 "isParted" "Z" ∈ WS := zw_mem 1056 (by decide +kernel) (by decide +kernel)
theorem zw1057 : Cond.fieldLink RX12 43 RX12 "bits" "[I" ∈ WS := zw_mem 1057 (by decide +kernel) (by decide +kernel)
theorem zw1058 : Cond.fieldLink RX12 46 RX12 "sizes" "[I" ∈ WS := zw_mem 1058 (by decide +kernel) (by decide +kernel)
theorem zw1059 : Cond.fieldLink RX12 49 RX12 "number" "[I" ∈ WS := zw_mem 1059 (by decide +kernel) (by decide +kernel)
theorem zw1060 : Cond.fieldLink RX12 52 RX12 "aside" "[I" ∈ WS := zw_mem 1060 (by decide +kernel) (by decide +kernel)
theorem zw1122 : Cond.methodLink RX12 56 yX12_in ∈ WS := zw_mem 1122 (by decide +kernel) (by decide +kernel)
theorem zw1123 : Cond.static yX12_in ∈ WS := zw_mem 1123 (by decide +kernel) (by decide +kernel)
theorem zw1124 : Cond.code yX12_in cX12_in 3 (some .boolean) ∈ WS := zw_mem 1124 (by decide +kernel) (by decide +kernel)
theorem zw1125 : Cond.methodLink RX12 64 yX12_error ∈ WS := zw_mem 1125 (by decide +kernel) (by decide +kernel)
theorem zw1127 : Cond.instanceMethod yX12_error ∈ WS := zw_mem 1127 (by decide +kernel) (by decide +kernel)
theorem zw1128 : Cond.code yX12_error cX12_error 2 (some .int) ∈ WS := zw_mem 1128 (by decide +kernel) (by decide +kernel)
theorem zw1129 : Cond.constant RX12 55 (-1000000) ∈ WS := zw_mem 1129 (by decide +kernel) (by decide +kernel)
theorem zw1130 : Cond.constantLong RX12 68 (255) ∈ WS := zw_mem 1130 (by decide +kernel) (by decide +kernel)
theorem zw1135 : Cond.methodLink RX12 114 yX12_whole ∈ WS := zw_mem 1135 (by decide +kernel) (by decide +kernel)
theorem zw1137 : Cond.instanceMethod yX12_whole ∈ WS := zw_mem 1137 (by decide +kernel) (by decide +kernel)
theorem zw1138 : Cond.code yX12_whole cX12_whole 1 (some .boolean) ∈ WS := zw_mem 1138 (by decide +kernel) (by decide +kernel)
theorem zw1139 : Cond.methodLink RX12 80 yX12_both ∈ WS := zw_mem 1139 (by decide +kernel) (by decide +kernel)
theorem zw1141 : Cond.instanceMethod yX12_both ∈ WS := zw_mem 1141 (by decide +kernel) (by decide +kernel)
theorem zw1142 : Cond.code yX12_both cX12_both 1 (some .boolean) ∈ WS := zw_mem 1142 (by decide +kernel) (by decide +kernel)
theorem zw1143 : Cond.methodLink RX12 92 yX12_compared ∈ WS := zw_mem 1143 (by decide +kernel) (by decide +kernel)
theorem zw1145 : Cond.instanceMethod yX12_compared ∈ WS := zw_mem 1145 (by decide +kernel) (by decide +kernel)
theorem zw1146 : Cond.code yX12_compared cX12_compared 2 (some .boolean) ∈ WS := zw_mem 1146 (by decide +kernel) (by decide +kernel)
theorem zw1147 : Cond.methodLink RX12 95 yX12_sum ∈ WS := zw_mem 1147 (by decide +kernel) (by decide +kernel)
theorem zw1149 : Cond.instanceMethod yX12_sum ∈ WS := zw_mem 1149 (by decide +kernel) (by decide +kernel)
theorem zw1150 : Cond.code yX12_sum cX12_sum 2 (some .boolean) ∈ WS := zw_mem 1150 (by decide +kernel) (by decide +kernel)
theorem zw1151 : Cond.methodLink RX12 98 yX12_product ∈ WS := zw_mem 1151 (by decide +kernel) (by decide +kernel)
theorem zw1153 : Cond.instanceMethod yX12_product ∈ WS := zw_mem 1153 (by decide +kernel) (by decide +kernel)
theorem zw1154 : Cond.code yX12_product cX12_product 2 (some .boolean) ∈ WS := zw_mem 1154 (by decide +kernel) (by decide +kernel)
theorem zw1155 : Cond.methodLink RX12 101 yX12_one ∈ WS := zw_mem 1155 (by decide +kernel) (by decide +kernel)
theorem zw1157 : Cond.instanceMethod yX12_one ∈ WS := zw_mem 1157 (by decide +kernel) (by decide +kernel)
theorem zw1158 : Cond.code yX12_one cX12_one 4 (some .boolean) ∈ WS := zw_mem 1158 (by decide +kernel) (by decide +kernel)
theorem zw1159 : Cond.methodLink RX12 84 yX12_look ∈ WS := zw_mem 1159 (by decide +kernel) (by decide +kernel)
theorem zw1161 : Cond.instanceMethod yX12_look ∈ WS := zw_mem 1161 (by decide +kernel) (by decide +kernel)
theorem zw1162 : Cond.code yX12_look cX12_look 1 (some .int) ∈ WS := zw_mem 1162 (by decide +kernel) (by decide +kernel)
theorem zw1163 : Cond.methodLink RX12 107 yX12_isName ∈ WS := zw_mem 1163 (by decide +kernel) (by decide +kernel)
theorem zw1165 : Cond.instanceMethod yX12_isName ∈ WS := zw_mem 1165 (by decide +kernel) (by decide +kernel)
theorem zw1166 : Cond.code yX12_isName cX12_isName 2 (some .boolean) ∈ WS := zw_mem 1166 (by decide +kernel) (by decide +kernel)
theorem zw1167 : Cond.methodLink RX12 88 yX12_lays ∈ WS := zw_mem 1167 (by decide +kernel) (by decide +kernel)
theorem zw1169 : Cond.instanceMethod yX12_lays ∈ WS := zw_mem 1169 (by decide +kernel) (by decide +kernel)
theorem zw1170 : Cond.code yX12_lays cX12_lays 3 none ∈ WS := zw_mem 1170 (by decide +kernel) (by decide +kernel)
theorem zw1171 : Cond.methodLink RX12 111 yX12_opens ∈ WS := zw_mem 1171 (by decide +kernel) (by decide +kernel)
theorem zw1173 : Cond.instanceMethod yX12_opens ∈ WS := zw_mem 1173 (by decide +kernel) (by decide +kernel)
theorem zw1174 : Cond.code yX12_opens cX12_opens 1 (some .boolean) ∈ WS := zw_mem 1174 (by decide +kernel) (by decide +kernel)
theorem zw1179 : Cond.methodLink RX12 117 yX12_hasText ∈ WS := zw_mem 1179 (by decide +kernel) (by decide +kernel)
theorem zw1181 : Cond.instanceMethod yX12_hasText ∈ WS := zw_mem 1181 (by decide +kernel) (by decide +kernel)
theorem zw1182 : Cond.code yX12_hasText cX12_hasText 2 (some .boolean) ∈ WS := zw_mem 1182 (by decide +kernel) (by decide +kernel)
theorem zw1191 : Cond.methodLink RX12 133 yX12_isWall ∈ WS := zw_mem 1191 (by decide +kernel) (by decide +kernel)
theorem zw1193 : Cond.instanceMethod yX12_isWall ∈ WS := zw_mem 1193 (by decide +kernel) (by decide +kernel)
theorem zw1194 : Cond.code yX12_isWall cX12_isWall 2 (some .boolean) ∈ WS := zw_mem 1194 (by decide +kernel) (by decide +kernel)
theorem zw1195 : Cond.methodLink RX12 164 yX12_reads ∈ WS := zw_mem 1195 (by decide +kernel) (by decide +kernel)
theorem zw1197 : Cond.instanceMethod yX12_reads ∈ WS := zw_mem 1197 (by decide +kernel) (by decide +kernel)
theorem zw1198 : Cond.code yX12_reads cX12_reads 6 none ∈ WS := zw_mem 1198 (by decide +kernel) (by decide +kernel)
theorem zw1199 : Cond.methodLink RX12 129 yX12_takes ∈ WS := zw_mem 1199 (by decide +kernel) (by decide +kernel)
theorem zw1201 : Cond.instanceMethod yX12_takes ∈ WS := zw_mem 1201 (by decide +kernel) (by decide +kernel)
theorem zw1202 : Cond.code yX12_takes cX12_takes 3 none ∈ WS := zw_mem 1202 (by decide +kernel) (by decide +kernel)
theorem zw1203 : Cond.methodLink RX12 60 yX12_its ∈ WS := zw_mem 1203 (by decide +kernel) (by decide +kernel)
theorem zw1205 : Cond.instanceMethod yX12_its ∈ WS := zw_mem 1205 (by decide +kernel) (by decide +kernel)
theorem zw1206 : Cond.code yX12_its cX12_its 3 (some .int) ∈ WS := zw_mem 1206 (by decide +kernel) (by decide +kernel)
theorem zw1207 : Cond.methodLink RX12 124 yX12_at ∈ WS := zw_mem 1207 (by decide +kernel) (by decide +kernel)
theorem zw1209 : Cond.instanceMethod yX12_at ∈ WS := zw_mem 1209 (by decide +kernel) (by decide +kernel)
theorem zw1210 : Cond.code yX12_at cX12_at 3 (some .int) ∈ WS := zw_mem 1210 (by decide +kernel) (by decide +kernel)
theorem zw1211 : Cond.methodLink RX12 136 yX12_turns ∈ WS := zw_mem 1211 (by decide +kernel) (by decide +kernel)
theorem zw1213 : Cond.instanceMethod yX12_turns ∈ WS := zw_mem 1213 (by decide +kernel) (by decide +kernel)
theorem zw1214 : Cond.code yX12_turns cX12_turns 4 none ∈ WS := zw_mem 1214 (by decide +kernel) (by decide +kernel)
theorem zw1215 : Cond.methodLink RX12 139 yX12_worked ∈ WS := zw_mem 1215 (by decide +kernel) (by decide +kernel)
theorem zw1217 : Cond.instanceMethod yX12_worked ∈ WS := zw_mem 1217 (by decide +kernel) (by decide +kernel)
theorem zw1218 : Cond.code yX12_worked cX12_worked 7 (some .int) ∈ WS := zw_mem 1218 (by decide +kernel) (by decide +kernel)
theorem zw1219 : Cond.methodLink RX12 120 yX12_joined ∈ WS := zw_mem 1219 (by decide +kernel) (by decide +kernel)
theorem zw1220 : Cond.static yX12_joined ∈ WS := zw_mem 1220 (by decide +kernel) (by decide +kernel)
theorem zw1221 : Cond.code yX12_joined cX12_joined 3 (some .int) ∈ WS := zw_mem 1221 (by decide +kernel) (by decide +kernel)
theorem zw1222 : Cond.methodLink RX12 142 yX12_isLetter ∈ WS := zw_mem 1222 (by decide +kernel) (by decide +kernel)
theorem zw1223 : Cond.static yX12_isLetter ∈ WS := zw_mem 1223 (by decide +kernel) (by decide +kernel)
theorem zw1224 : Cond.code yX12_isLetter cX12_isLetter 1 (some .boolean) ∈ WS := zw_mem 1224 (by decide +kernel) (by decide +kernel)
theorem zw1225 : Cond.methodLink RX12 173 yX12_doesRead ∈ WS := zw_mem 1225 (by decide +kernel) (by decide +kernel)
theorem zw1227 : Cond.instanceMethod yX12_doesRead ∈ WS := zw_mem 1227 (by decide +kernel) (by decide +kernel)
theorem zw1228 : Cond.code yX12_doesRead cX12_doesRead 2 (some .boolean) ∈ WS := zw_mem 1228 (by decide +kernel) (by decide +kernel)
theorem zw1229 : Cond.methodLink RX12 167 yX12_findWays ∈ WS := zw_mem 1229 (by decide +kernel) (by decide +kernel)
theorem zw1231 : Cond.instanceMethod yX12_findWays ∈ WS := zw_mem 1231 (by decide +kernel) (by decide +kernel)
theorem zw1232 : Cond.code yX12_findWays cX12_findWays 6 (some .int) ∈ WS := zw_mem 1232 (by decide +kernel) (by decide +kernel)
theorem zw1233 : Cond.methodLink RX12 151 yX12_sortOf ∈ WS := zw_mem 1233 (by decide +kernel) (by decide +kernel)
theorem zw1235 : Cond.instanceMethod yX12_sortOf ∈ WS := zw_mem 1235 (by decide +kernel) (by decide +kernel)
theorem zw1236 : Cond.code yX12_sortOf cX12_sortOf 2 (some .int) ∈ WS := zw_mem 1236 (by decide +kernel) (by decide +kernel)
theorem zw1237 : Cond.methodLink RX12 154 yX12_behind ∈ WS := zw_mem 1237 (by decide +kernel) (by decide +kernel)
theorem zw1238 : Cond.static yX12_behind ∈ WS := zw_mem 1238 (by decide +kernel) (by decide +kernel)
theorem zw1239 : Cond.code yX12_behind cX12_behind 2 (some .int) ∈ WS := zw_mem 1239 (by decide +kernel) (by decide +kernel)
theorem zw1240 : Cond.methodLink RX12 157 yX12_unlike ∈ WS := zw_mem 1240 (by decide +kernel) (by decide +kernel)
theorem zw1242 : Cond.instanceMethod yX12_unlike ∈ WS := zw_mem 1242 (by decide +kernel) (by decide +kernel)
theorem zw1243 : Cond.code yX12_unlike cX12_unlike 6 (some .int) ∈ WS := zw_mem 1243 (by decide +kernel) (by decide +kernel)
theorem zw1244 : Cond.methodLink RX12 145 yX12_lengthOf ∈ WS := zw_mem 1244 (by decide +kernel) (by decide +kernel)
theorem zw1246 : Cond.instanceMethod yX12_lengthOf ∈ WS := zw_mem 1246 (by decide +kernel) (by decide +kernel)
theorem zw1247 : Cond.code yX12_lengthOf cX12_lengthOf 2 (some .int) ∈ WS := zw_mem 1247 (by decide +kernel) (by decide +kernel)
theorem zw1248 : Cond.methodLink RX12 148 yX12_letterOf ∈ WS := zw_mem 1248 (by decide +kernel) (by decide +kernel)
theorem zw1250 : Cond.instanceMethod yX12_letterOf ∈ WS := zw_mem 1250 (by decide +kernel) (by decide +kernel)
theorem zw1251 : Cond.code yX12_letterOf cX12_letterOf 3 (some .int) ∈ WS := zw_mem 1251 (by decide +kernel) (by decide +kernel)
theorem zw1252 : Cond.constant RX12 160 (999999) ∈ WS := zw_mem 1252 (by decide +kernel) (by decide +kernel)
theorem zw1253 : Cond.methodLink RX12 161 yX12_held ∈ WS := zw_mem 1253 (by decide +kernel) (by decide +kernel)
theorem zw1254 : Cond.static yX12_held ∈ WS := zw_mem 1254 (by decide +kernel) (by decide +kernel)
theorem zw1255 : Cond.code yX12_held cX12_held 3 (some .int) ∈ WS := zw_mem 1255 (by decide +kernel) (by decide +kernel)
theorem zw1256 : Cond.methodLink RX12 176 yX12_stuck ∈ WS := zw_mem 1256 (by decide +kernel) (by decide +kernel)
theorem zw1258 : Cond.instanceMethod yX12_stuck ∈ WS := zw_mem 1258 (by decide +kernel) (by decide +kernel)
theorem zw1259 : Cond.code yX12_stuck cX12_stuck 6 (some .int) ∈ WS := zw_mem 1259 (by decide +kernel) (by decide +kernel)
theorem zw1260 : Cond.methodLink RX12 179 yX12_costOf ∈ WS := zw_mem 1260 (by decide +kernel) (by decide +kernel)
theorem zw1262 : Cond.instanceMethod yX12_costOf ∈ WS := zw_mem 1262 (by decide +kernel) (by decide +kernel)
theorem zw1263 : Cond.code yX12_costOf cX12_costOf 4 (some .int) ∈ WS := zw_mem 1263 (by decide +kernel) (by decide +kernel)
theorem zw1264 : Cond.methodLink RX12 207 yX12_priceOf ∈ WS := zw_mem 1264 (by decide +kernel) (by decide +kernel)
theorem zw1266 : Cond.instanceMethod yX12_priceOf ∈ WS := zw_mem 1266 (by decide +kernel) (by decide +kernel)
theorem zw1267 : Cond.code yX12_priceOf cX12_priceOf 2 (some .int) ∈ WS := zw_mem 1267 (by decide +kernel) (by decide +kernel)
theorem zw1272 : Cond.methodLink RX12 182 yX12_isUnder ∈ WS := zw_mem 1272 (by decide +kernel) (by decide +kernel)
theorem zw1273 : Cond.static yX12_isUnder ∈ WS := zw_mem 1273 (by decide +kernel) (by decide +kernel)
theorem zw1274 : Cond.code yX12_isUnder cX12_isUnder 2 (some .boolean) ∈ WS := zw_mem 1274 (by decide +kernel) (by decide +kernel)
theorem zw1283 : Cond.methodLink RX12 186 yX12_isPlace ∈ WS := zw_mem 1283 (by decide +kernel) (by decide +kernel)
theorem zw1285 : Cond.instanceMethod yX12_isPlace ∈ WS := zw_mem 1285 (by decide +kernel) (by decide +kernel)
theorem zw1286 : Cond.code yX12_isPlace cX12_isPlace 3 (some .boolean) ∈ WS := zw_mem 1286 (by decide +kernel) (by decide +kernel)
theorem zw1303 : Cond.methodLink RX12 189 yX12_isWord ∈ WS := zw_mem 1303 (by decide +kernel) (by decide +kernel)
theorem zw1305 : Cond.instanceMethod yX12_isWord ∈ WS := zw_mem 1305 (by decide +kernel) (by decide +kernel)
theorem zw1306 : Cond.code yX12_isWord cX12_isWord 2 (some .boolean) ∈ WS := zw_mem 1306 (by decide +kernel) (by decide +kernel)
theorem zw1315 : Cond.methodLink RX12 192 yX12_findSaid ∈ WS := zw_mem 1315 (by decide +kernel) (by decide +kernel)
theorem zw1317 : Cond.instanceMethod yX12_findSaid ∈ WS := zw_mem 1317 (by decide +kernel) (by decide +kernel)
theorem zw1318 : Cond.code yX12_findSaid cX12_findSaid 6 none ∈ WS := zw_mem 1318 (by decide +kernel) (by decide +kernel)
theorem zw1323 : Cond.methodLink RX12 195 yX12_readsWithDoor ∈ WS := zw_mem 1323 (by decide +kernel) (by decide +kernel)
theorem zw1325 : Cond.instanceMethod yX12_readsWithDoor ∈ WS := zw_mem 1325 (by decide +kernel) (by decide +kernel)
theorem zw1326 : Cond.code yX12_readsWithDoor cX12_readsWithDoor 6 (some .boolean) ∈ WS := zw_mem 1326 (by decide +kernel) (by decide +kernel)
theorem zw1335 : Cond.methodLink RX12 198 yX12_othersAt ∈ WS := zw_mem 1335 (by decide +kernel) (by decide +kernel)
theorem zw1337 : Cond.instanceMethod yX12_othersAt ∈ WS := zw_mem 1337 (by decide +kernel) (by decide +kernel)
theorem zw1338 : Cond.code yX12_othersAt cX12_othersAt 6 (some .int) ∈ WS := zw_mem 1338 (by decide +kernel) (by decide +kernel)
theorem zw1343 : Cond.methodLink RX12 201 yX12_bitsOf ∈ WS := zw_mem 1343 (by decide +kernel) (by decide +kernel)
theorem zw1344 : Cond.static yX12_bitsOf ∈ WS := zw_mem 1344 (by decide +kernel) (by decide +kernel)
theorem zw1345 : Cond.code yX12_bitsOf cX12_bitsOf 3 (some .int) ∈ WS := zw_mem 1345 (by decide +kernel) (by decide +kernel)
theorem zw1354 : Cond.methodLink RX12 204 yX12_isSheet ∈ WS := zw_mem 1354 (by decide +kernel) (by decide +kernel)
theorem zw1355 : Cond.static yX12_isSheet ∈ WS := zw_mem 1355 (by decide +kernel) (by decide +kernel)
theorem zw1356 : Cond.code yX12_isSheet cX12_isSheet 1 (some .boolean) ∈ WS := zw_mem 1356 (by decide +kernel) (by decide +kernel)
theorem zw1369 : Cond.constant RX12 210 (99999) ∈ WS := zw_mem 1369 (by decide +kernel) (by decide +kernel)
theorem zw1374 : Cond.methodLink RX12 211 yX12_letters ∈ WS := zw_mem 1374 (by decide +kernel) (by decide +kernel)
theorem zw1376 : Cond.instanceMethod yX12_letters ∈ WS := zw_mem 1376 (by decide +kernel) (by decide +kernel)
theorem zw1377 : Cond.code yX12_letters cX12_letters 4 (some .int) ∈ WS := zw_mem 1377 (by decide +kernel) (by decide +kernel)
theorem zw1382 : Cond.methodLink RX12 214 yX12_toHeap ∈ WS := zw_mem 1382 (by decide +kernel) (by decide +kernel)
theorem zw1384 : Cond.instanceMethod yX12_toHeap ∈ WS := zw_mem 1384 (by decide +kernel) (by decide +kernel)
theorem zw1385 : Cond.code yX12_toHeap cX12_toHeap 4 none ∈ WS := zw_mem 1385 (by decide +kernel) (by decide +kernel)
theorem zw1390 : Cond.methodLink RX12 229 yX12_builds1 ∈ WS := zw_mem 1390 (by decide +kernel) (by decide +kernel)
theorem zw1392 : Cond.instanceMethod yX12_builds1 ∈ WS := zw_mem 1392 (by decide +kernel) (by decide +kernel)
theorem zw1393 : Cond.code yX12_builds1 cX12_builds1 7 none ∈ WS := zw_mem 1393 (by decide +kernel) (by decide +kernel)
theorem zw1394 : Cond.methodLink RX12 226 yX12_takesLetters ∈ WS := zw_mem 1394 (by decide +kernel) (by decide +kernel)
theorem zw1396 : Cond.instanceMethod yX12_takesLetters ∈ WS := zw_mem 1396 (by decide +kernel) (by decide +kernel)
theorem zw1397 : Cond.code yX12_takesLetters cX12_takesLetters 4 (some .boolean) ∈ WS := zw_mem 1397 (by decide +kernel) (by decide +kernel)
theorem zw1398 : Cond.methodLink RX12 233 yX12_givesLetters ∈ WS := zw_mem 1398 (by decide +kernel) (by decide +kernel)
theorem zw1400 : Cond.instanceMethod yX12_givesLetters ∈ WS := zw_mem 1400 (by decide +kernel) (by decide +kernel)
theorem zw1401 : Cond.code yX12_givesLetters cX12_givesLetters 3 none ∈ WS := zw_mem 1401 (by decide +kernel) (by decide +kernel)
theorem zw1406 : Cond.methodLink RX12 237 yX12_draw ∈ WS := zw_mem 1406 (by decide +kernel) (by decide +kernel)
theorem zw1408 : Cond.instanceMethod yX12_draw ∈ WS := zw_mem 1408 (by decide +kernel) (by decide +kernel)
theorem zw1409 : Cond.code yX12_draw cX12_draw 1 (some .int) ∈ WS := zw_mem 1409 (by decide +kernel) (by decide +kernel)
theorem zw1410 : Cond.constant RX12 236 (1103515245) ∈ WS := zw_mem 1410 (by decide +kernel) (by decide +kernel)
theorem zw1419 : Cond.methodLink RX12 255 yX12_kindNow ∈ WS := zw_mem 1419 (by decide +kernel) (by decide +kernel)
theorem zw1421 : Cond.instanceMethod yX12_kindNow ∈ WS := zw_mem 1421 (by decide +kernel) (by decide +kernel)
theorem zw1422 : Cond.code yX12_kindNow cX12_kindNow 1 (some .int) ∈ WS := zw_mem 1422 (by decide +kernel) (by decide +kernel)
theorem zw1423 : Cond.methodLink RX12 252 yX12_readsBy ∈ WS := zw_mem 1423 (by decide +kernel) (by decide +kernel)
theorem zw1425 : Cond.instanceMethod yX12_readsBy ∈ WS := zw_mem 1425 (by decide +kernel) (by decide +kernel)
theorem zw1426 : Cond.code yX12_readsBy cX12_readsBy 3 (some .int) ∈ WS := zw_mem 1426 (by decide +kernel) (by decide +kernel)
theorem zw1427 : Cond.methodLink RX12 246 yX12_begins ∈ WS := zw_mem 1427 (by decide +kernel) (by decide +kernel)
theorem zw1429 : Cond.instanceMethod yX12_begins ∈ WS := zw_mem 1429 (by decide +kernel) (by decide +kernel)
theorem zw1430 : Cond.code yX12_begins cX12_begins 2 none ∈ WS := zw_mem 1430 (by decide +kernel) (by decide +kernel)
theorem zw1431 : Cond.methodLink RX12 249 yX12_above ∈ WS := zw_mem 1431 (by decide +kernel) (by decide +kernel)
theorem zw1432 : Cond.static yX12_above ∈ WS := zw_mem 1432 (by decide +kernel) (by decide +kernel)
theorem zw1433 : Cond.code yX12_above cX12_above 1 (some .int) ∈ WS := zw_mem 1433 (by decide +kernel) (by decide +kernel)
theorem zw1434 : Cond.methodLink RX12 258 yX12_saysBy ∈ WS := zw_mem 1434 (by decide +kernel) (by decide +kernel)
theorem zw1436 : Cond.instanceMethod yX12_saysBy ∈ WS := zw_mem 1436 (by decide +kernel) (by decide +kernel)
theorem zw1437 : Cond.code yX12_saysBy cX12_saysBy 3 (some .int) ∈ WS := zw_mem 1437 (by decide +kernel) (by decide +kernel)
theorem zw1438 : Cond.methodLink RX12 261 yX12_mNow ∈ WS := zw_mem 1438 (by decide +kernel) (by decide +kernel)
theorem zw1440 : Cond.instanceMethod yX12_mNow ∈ WS := zw_mem 1440 (by decide +kernel) (by decide +kernel)
theorem zw1441 : Cond.code yX12_mNow cX12_mNow 1 (some .int) ∈ WS := zw_mem 1441 (by decide +kernel) (by decide +kernel)
theorem zw1442 : Cond.methodLink RX12 264 yX12_fallsBy ∈ WS := zw_mem 1442 (by decide +kernel) (by decide +kernel)
theorem zw1444 : Cond.instanceMethod yX12_fallsBy ∈ WS := zw_mem 1444 (by decide +kernel) (by decide +kernel)
theorem zw1445 : Cond.code yX12_fallsBy cX12_fallsBy 3 (some .int) ∈ WS := zw_mem 1445 (by decide +kernel) (by decide +kernel)
theorem zw1446 : Cond.methodLink RX12 271 yX12_mendsBy ∈ WS := zw_mem 1446 (by decide +kernel) (by decide +kernel)
theorem zw1448 : Cond.instanceMethod yX12_mendsBy ∈ WS := zw_mem 1448 (by decide +kernel) (by decide +kernel)
theorem zw1449 : Cond.code yX12_mendsBy cX12_mendsBy 5 (some .int) ∈ WS := zw_mem 1449 (by decide +kernel) (by decide +kernel)
theorem zw1474 : Cond.methodLink RX12 274 yX12_carry ∈ WS := zw_mem 1474 (by decide +kernel) (by decide +kernel)
theorem zw1475 : Cond.static yX12_carry ∈ WS := zw_mem 1475 (by decide +kernel) (by decide +kernel)
theorem zw1476 : Cond.code yX12_carry cX12_carry 3 none ∈ WS := zw_mem 1476 (by decide +kernel) (by decide +kernel)
theorem zi0 : ∀ q ∈ u_ws RX0 TX0 6, q ∈ WS := fun q h => List.mem_filter.mpr ⟨(by decide +kernel : ∀ q ∈ u_ws RX0 TX0 6, q ∈ lw_tbl) q h, (by decide +kernel : ∀ q ∈ u_ws RX0 TX0 6, goodWord q = true) q h⟩
theorem zi1 : ∀ q ∈ u_ws RX1 TX1 4, q ∈ WS := fun q h => List.mem_filter.mpr ⟨(by decide +kernel : ∀ q ∈ u_ws RX1 TX1 4, q ∈ lw_tbl) q h, (by decide +kernel : ∀ q ∈ u_ws RX1 TX1 4, goodWord q = true) q h⟩
theorem zi2 : ∀ q ∈ u_ws RX2 TX2 7, q ∈ WS := fun q h => List.mem_filter.mpr ⟨(by decide +kernel : ∀ q ∈ u_ws RX2 TX2 7, q ∈ lw_tbl) q h, (by decide +kernel : ∀ q ∈ u_ws RX2 TX2 7, goodWord q = true) q h⟩
theorem zi3 : ∀ q ∈ u_ws RX3 TX3 2, q ∈ WS := fun q h => List.mem_filter.mpr ⟨(by decide +kernel : ∀ q ∈ u_ws RX3 TX3 2, q ∈ lw_tbl) q h, (by decide +kernel : ∀ q ∈ u_ws RX3 TX3 2, goodWord q = true) q h⟩
theorem zi4 : ∀ q ∈ u_ws RX4 TX4 3, q ∈ WS := fun q h => List.mem_filter.mpr ⟨(by decide +kernel : ∀ q ∈ u_ws RX4 TX4 3, q ∈ lw_tbl) q h, (by decide +kernel : ∀ q ∈ u_ws RX4 TX4 3, goodWord q = true) q h⟩
theorem zi5 : ∀ q ∈ u_ws RX5 TX5 6, q ∈ WS := fun q h => List.mem_filter.mpr ⟨(by decide +kernel : ∀ q ∈ u_ws RX5 TX5 6, q ∈ lw_tbl) q h, (by decide +kernel : ∀ q ∈ u_ws RX5 TX5 6, goodWord q = true) q h⟩
theorem zi6 : ∀ q ∈ u_ws RX6 TX6 4, q ∈ WS := fun q h => List.mem_filter.mpr ⟨(by decide +kernel : ∀ q ∈ u_ws RX6 TX6 4, q ∈ lw_tbl) q h, (by decide +kernel : ∀ q ∈ u_ws RX6 TX6 4, goodWord q = true) q h⟩
theorem zi7 : ∀ q ∈ u_ws RX7 TX7 2, q ∈ WS := fun q h => List.mem_filter.mpr ⟨(by decide +kernel : ∀ q ∈ u_ws RX7 TX7 2, q ∈ lw_tbl) q h, (by decide +kernel : ∀ q ∈ u_ws RX7 TX7 2, goodWord q = true) q h⟩
theorem zi8 : ∀ q ∈ u_ws RX8 TX8 13, q ∈ WS := fun q h => List.mem_filter.mpr ⟨(by decide +kernel : ∀ q ∈ u_ws RX8 TX8 13, q ∈ lw_tbl) q h, (by decide +kernel : ∀ q ∈ u_ws RX8 TX8 13, goodWord q = true) q h⟩
theorem zi9 : ∀ q ∈ u_ws RX9 TX9 4, q ∈ WS := fun q h => List.mem_filter.mpr ⟨(by decide +kernel : ∀ q ∈ u_ws RX9 TX9 4, q ∈ lw_tbl) q h, (by decide +kernel : ∀ q ∈ u_ws RX9 TX9 4, goodWord q = true) q h⟩
theorem zi10 : ∀ q ∈ u_ws RX10 TX10 3, q ∈ WS := fun q h => List.mem_filter.mpr ⟨(by decide +kernel : ∀ q ∈ u_ws RX10 TX10 3, q ∈ lw_tbl) q h, (by decide +kernel : ∀ q ∈ u_ws RX10 TX10 3, goodWord q = true) q h⟩
theorem zi11 : ∀ q ∈ u_ws RX11 TX11 11, q ∈ WS := fun q h => List.mem_filter.mpr ⟨(by decide +kernel : ∀ q ∈ u_ws RX11 TX11 11, q ∈ lw_tbl) q h, (by decide +kernel : ∀ q ∈ u_ws RX11 TX11 11, goodWord q = true) q h⟩
theorem zi12 : ∀ q ∈ u_ws RX12 TX12 28, q ∈ WS := fun q h => List.mem_filter.mpr ⟨(by decide +kernel : ∀ q ∈ u_ws RX12 TX12 28, q ∈ lw_tbl) q h, (by decide +kernel : ∀ q ∈ u_ws RX12 TX12 28, goodWord q = true) q h⟩
theorem zplX0 : plainName RX0 = true := by decide +kernel
theorem zplX1 : plainName RX1 = true := by decide +kernel
theorem zplX2 : plainName RX2 = true := by decide +kernel
theorem zplX3 : plainName RX3 = true := by decide +kernel
theorem zplX4 : plainName RX4 = true := by decide +kernel
theorem zplX5 : plainName RX5 = true := by decide +kernel
theorem zplX6 : plainName RX6 = true := by decide +kernel
theorem zplX7 : plainName RX7 = true := by decide +kernel
theorem zplX8 : plainName RX8 = true := by decide +kernel
theorem zplX9 : plainName RX9 = true := by decide +kernel
theorem zplX10 : plainName RX10 = true := by decide +kernel
theorem zplX11 : plainName RX11 = true := by decide +kernel
theorem zplX12 : plainName RX12 = true := by decide +kernel
theorem zplJ7 : plainName RJ7 = true := by decide +kernel
theorem zplJ6 : plainName RJ6 = true := by decide +kernel
theorem zplJ0 : plainName RJ0 = true := by decide +kernel
theorem zplJ1 : plainName RJ1 = true := by decide +kernel
theorem zkb10 : (Int8.ofInt (10)).toInt32 = nI 10 := by decide
theorem zkb104 : (Int8.ofInt (104)).toInt32 = nI 104 := by decide
theorem zkb105 : (Int8.ofInt (105)).toInt32 = nI 105 := by decide
theorem zkb108 : (Int8.ofInt (108)).toInt32 = nI 108 := by decide
theorem zkb109 : (Int8.ofInt (109)).toInt32 = nI 109 := by decide
theorem zkb11 : (Int8.ofInt (11)).toInt32 = nI 11 := by decide
theorem zkb110 : (Int8.ofInt (110)).toInt32 = nI 110 := by decide
theorem zkb115 : (Int8.ofInt (115)).toInt32 = nI 115 := by decide
theorem zkb12 : (Int8.ofInt (12)).toInt32 = nI 12 := by decide
theorem zkb124 : (Int8.ofInt (124)).toInt32 = nI 124 := by decide
theorem zkb125 : (Int8.ofInt (125)).toInt32 = nI 125 := by decide
theorem zkb13 : (Int8.ofInt (13)).toInt32 = nI 13 := by decide
theorem zkb16 : (Int8.ofInt (16)).toInt32 = nI 16 := by decide
theorem zkb20 : (Int8.ofInt (20)).toInt32 = nI 20 := by decide
theorem zkb21 : (Int8.ofInt (21)).toInt32 = nI 21 := by decide
theorem zkb24 : (Int8.ofInt (24)).toInt32 = nI 24 := by decide
theorem zkb26 : (Int8.ofInt (26)).toInt32 = nI 26 := by decide
theorem zkb27 : (Int8.ofInt (27)).toInt32 = nI 27 := by decide
theorem zkb30 : (Int8.ofInt (30)).toInt32 = nI 30 := by decide
theorem zkb32 : (Int8.ofInt (32)).toInt32 = nI 32 := by decide
theorem zkb33 : (Int8.ofInt (33)).toInt32 = nI 33 := by decide
theorem zkb37 : (Int8.ofInt (37)).toInt32 = nI 37 := by decide
theorem zkb38 : (Int8.ofInt (38)).toInt32 = nI 38 := by decide
theorem zkb40 : (Int8.ofInt (40)).toInt32 = nI 40 := by decide
theorem zkb41 : (Int8.ofInt (41)).toInt32 = nI 41 := by decide
theorem zkb42 : (Int8.ofInt (42)).toInt32 = nI 42 := by decide
theorem zkb43 : (Int8.ofInt (43)).toInt32 = nI 43 := by decide
theorem zkb45 : (Int8.ofInt (45)).toInt32 = nI 45 := by decide
theorem zkb47 : (Int8.ofInt (47)).toInt32 = nI 47 := by decide
theorem zkb48 : (Int8.ofInt (48)).toInt32 = nI 48 := by decide
theorem zkb50 : (Int8.ofInt (50)).toInt32 = nI 50 := by decide
theorem zkb51 : (Int8.ofInt (51)).toInt32 = nI 51 := by decide
theorem zkb57 : (Int8.ofInt (57)).toInt32 = nI 57 := by decide
theorem zkb6 : (Int8.ofInt (6)).toInt32 = nI 6 := by decide
theorem zkb60 : (Int8.ofInt (60)).toInt32 = nI 60 := by decide
theorem zkb61 : (Int8.ofInt (61)).toInt32 = nI 61 := by decide
theorem zkb62 : (Int8.ofInt (62)).toInt32 = nI 62 := by decide
theorem zkb63 : (Int8.ofInt (63)).toInt32 = nI 63 := by decide
theorem zkb69 : (Int8.ofInt (69)).toInt32 = nI 69 := by decide
theorem zkb7 : (Int8.ofInt (7)).toInt32 = nI 7 := by decide
theorem zkb70 : (Int8.ofInt (70)).toInt32 = nI 70 := by decide
theorem zkb71 : (Int8.ofInt (71)).toInt32 = nI 71 := by decide
theorem zkb8 : (Int8.ofInt (8)).toInt32 = nI 8 := by decide
theorem zkb9 : (Int8.ofInt (9)).toInt32 = nI 9 := by decide
theorem zkb99 : (Int8.ofInt (99)).toInt32 = nI 99 := by decide
theorem zkbm10 : (Int8.ofInt (-10)).toInt32 = mI 10 := by decide
theorem zkbm2 : (Int8.ofInt (-2)).toInt32 = mI 2 := by decide
theorem zkbm33 : (Int8.ofInt (-33)).toInt32 = mI 33 := by decide
theorem zkbm4 : (Int8.ofInt (-4)).toInt32 = mI 4 := by decide
theorem zki0 : Int32.ofInt (0) = nI 0 := by decide
theorem zki1 : Int32.ofInt (1) = nI 1 := by decide
theorem zki2 : Int32.ofInt (2) = nI 2 := by decide
theorem zki3 : Int32.ofInt (3) = nI 3 := by decide
theorem zki4 : Int32.ofInt (4) = nI 4 := by decide
theorem zki5 : Int32.ofInt (5) = nI 5 := by decide
theorem zkim1 : Int32.ofInt (-1) = mI 1 := by decide
theorem zkl1000000 : (1000000 : Int32) = nI 1000000 := by decide
theorem zkl1103515245 : (1103515245 : Int32) = nI 1103515245 := by decide
theorem zkl1431655765 : (1431655765 : Int32) = nI 1431655765 := by decide
theorem zkl252645135 : (252645135 : Int32) = nI 252645135 := by decide
theorem zkl858993459 : (858993459 : Int32) = nI 858993459 := by decide
theorem zkl99999 : (99999 : Int32) = nI 99999 := by decide
theorem zkl999999 : (999999 : Int32) = nI 999999 := by decide
theorem zklm1000000 : (-1000000 : Int32) = mI 1000000 := by decide
theorem zks12345 : (Int16.ofInt (12345)).toInt32 = nI 12345 := by decide
theorem zks170 : (Int16.ofInt (170)).toInt32 = nI 170 := by decide
theorem zks255 : (Int16.ofInt (255)).toInt32 = nI 255 := by decide
theorem zks266 : (Int16.ofInt (266)).toInt32 = nI 266 := by decide
theorem zks294 : (Int16.ofInt (294)).toInt32 = nI 294 := by decide
theorem zks544 : (Int16.ofInt (544)).toInt32 = nI 544 := by decide
theorem zks604 : (Int16.ofInt (604)).toInt32 = nI 604 := by decide
theorem zks628 : (Int16.ofInt (628)).toInt32 = nI 628 := by decide
theorem zks999 : (Int16.ofInt (999)).toInt32 = nI 999 := by decide
theorem zks9999 : (Int16.ofInt (9999)).toInt32 = nI 9999 := by decide
theorem zd_J6_bitCount_0f7a4 : (yJ6_bitCount_0f7a4).cls ≠ "java/lang/invoke/MethodHandle" ∧ (yJ6_bitCount_0f7a4).cls ≠ "java/lang/invoke/VarHandle" ∧ (parseMethodDescriptor (yJ6_bitCount_0f7a4).desc).map (fun d => d.parameters.length) = some 1 := by decide +kernel
theorem zd_J7_fill_53178 : (yJ7_fill_53178).cls ≠ "java/lang/invoke/MethodHandle" ∧ (yJ7_fill_53178).cls ≠ "java/lang/invoke/VarHandle" ∧ (parseMethodDescriptor (yJ7_fill_53178).desc).map (fun d => d.parameters.length) = some 2 := by decide +kernel
theorem zd_X0_extend : (yX0_extend).cls ≠ "java/lang/invoke/MethodHandle" ∧ (yX0_extend).cls ≠ "java/lang/invoke/VarHandle" ∧ (parseMethodDescriptor (yX0_extend).desc).map (fun d => d.parameters.length) = some 3 := by decide +kernel
theorem zd_X0_giveBack : (yX0_giveBack).cls ≠ "java/lang/invoke/MethodHandle" ∧ (yX0_giveBack).cls ≠ "java/lang/invoke/VarHandle" ∧ (parseMethodDescriptor (yX0_giveBack).desc).map (fun d => d.parameters.length) = some 1 := by decide +kernel
theorem zd_X0_note : (yX0_note).cls ≠ "java/lang/invoke/MethodHandle" ∧ (yX0_note).cls ≠ "java/lang/invoke/VarHandle" ∧ (parseMethodDescriptor (yX0_note).desc).map (fun d => d.parameters.length) = some 2 := by decide +kernel
theorem zd_X0_search : (yX0_search).cls ≠ "java/lang/invoke/MethodHandle" ∧ (yX0_search).cls ≠ "java/lang/invoke/VarHandle" ∧ (parseMethodDescriptor (yX0_search).desc).map (fun d => d.parameters.length) = some 3 := by decide +kernel
theorem zd_X0_take : (yX0_take).cls ≠ "java/lang/invoke/MethodHandle" ∧ (yX0_take).cls ≠ "java/lang/invoke/VarHandle" ∧ (parseMethodDescriptor (yX0_take).desc).map (fun d => d.parameters.length) = some 1 := by decide +kernel
theorem zd_X10_begin : (yX10_begin).cls ≠ "java/lang/invoke/MethodHandle" ∧ (yX10_begin).cls ≠ "java/lang/invoke/VarHandle" ∧ (parseMethodDescriptor (yX10_begin).desc).map (fun d => d.parameters.length) = some 2 := by decide +kernel
theorem zd_X10_copyFrom : (yX10_copyFrom).cls ≠ "java/lang/invoke/MethodHandle" ∧ (yX10_copyFrom).cls ≠ "java/lang/invoke/VarHandle" ∧ (parseMethodDescriptor (yX10_copyFrom).desc).map (fun d => d.parameters.length) = some 1 := by decide +kernel
theorem zd_X10_standsAt : (yX10_standsAt).cls ≠ "java/lang/invoke/MethodHandle" ∧ (yX10_standsAt).cls ≠ "java/lang/invoke/VarHandle" ∧ (parseMethodDescriptor (yX10_standsAt).desc).map (fun d => d.parameters.length) = some 2 := by decide +kernel
theorem zd_X10_unlikeAt : (yX10_unlikeAt).cls ≠ "java/lang/invoke/MethodHandle" ∧ (yX10_unlikeAt).cls ≠ "java/lang/invoke/VarHandle" ∧ (parseMethodDescriptor (yX10_unlikeAt).desc).map (fun d => d.parameters.length) = some 2 := by decide +kernel
theorem zd_X11_error : (yX11_error).cls ≠ "java/lang/invoke/MethodHandle" ∧ (yX11_error).cls ≠ "java/lang/invoke/VarHandle" ∧ (parseMethodDescriptor (yX11_error).desc).map (fun d => d.parameters.length) = some 1 := by decide +kernel
theorem zd_X11_isLetter : (yX11_isLetter).cls ≠ "java/lang/invoke/MethodHandle" ∧ (yX11_isLetter).cls ≠ "java/lang/invoke/VarHandle" ∧ (parseMethodDescriptor (yX11_isLetter).desc).map (fun d => d.parameters.length) = some 1 := by decide +kernel
theorem zd_X11_isSheet : (yX11_isSheet).cls ≠ "java/lang/invoke/MethodHandle" ∧ (yX11_isSheet).cls ≠ "java/lang/invoke/VarHandle" ∧ (parseMethodDescriptor (yX11_isSheet).desc).map (fun d => d.parameters.length) = some 1 := by decide +kernel
theorem zd_X11_isUnder : (yX11_isUnder).cls ≠ "java/lang/invoke/MethodHandle" ∧ (yX11_isUnder).cls ≠ "java/lang/invoke/VarHandle" ∧ (parseMethodDescriptor (yX11_isUnder).desc).map (fun d => d.parameters.length) = some 2 := by decide +kernel
theorem zd_X11_othersAt : (yX11_othersAt).cls ≠ "java/lang/invoke/MethodHandle" ∧ (yX11_othersAt).cls ≠ "java/lang/invoke/VarHandle" ∧ (parseMethodDescriptor (yX11_othersAt).desc).map (fun d => d.parameters.length) = some 2 := by decide +kernel
theorem zd_X11_passYear : (yX11_passYear).cls ≠ "java/lang/invoke/MethodHandle" ∧ (yX11_passYear).cls ≠ "java/lang/invoke/VarHandle" ∧ (parseMethodDescriptor (yX11_passYear).desc).map (fun d => d.parameters.length) = some 0 := by decide +kernel
theorem zd_X11_readsWith : (yX11_readsWith).cls ≠ "java/lang/invoke/MethodHandle" ∧ (yX11_readsWith).cls ≠ "java/lang/invoke/VarHandle" ∧ (parseMethodDescriptor (yX11_readsWith).desc).map (fun d => d.parameters.length) = some 3 := by decide +kernel
theorem zd_X11_unlikeWish : (yX11_unlikeWish).cls ≠ "java/lang/invoke/MethodHandle" ∧ (yX11_unlikeWish).cls ≠ "java/lang/invoke/VarHandle" ∧ (parseMethodDescriptor (yX11_unlikeWish).desc).map (fun d => d.parameters.length) = some 1 := by decide +kernel
theorem zd_X12_above : (yX12_above).cls ≠ "java/lang/invoke/MethodHandle" ∧ (yX12_above).cls ≠ "java/lang/invoke/VarHandle" ∧ (parseMethodDescriptor (yX12_above).desc).map (fun d => d.parameters.length) = some 1 := by decide +kernel
theorem zd_X12_at : (yX12_at).cls ≠ "java/lang/invoke/MethodHandle" ∧ (yX12_at).cls ≠ "java/lang/invoke/VarHandle" ∧ (parseMethodDescriptor (yX12_at).desc).map (fun d => d.parameters.length) = some 2 := by decide +kernel
theorem zd_X12_begins : (yX12_begins).cls ≠ "java/lang/invoke/MethodHandle" ∧ (yX12_begins).cls ≠ "java/lang/invoke/VarHandle" ∧ (parseMethodDescriptor (yX12_begins).desc).map (fun d => d.parameters.length) = some 1 := by decide +kernel
theorem zd_X12_behind : (yX12_behind).cls ≠ "java/lang/invoke/MethodHandle" ∧ (yX12_behind).cls ≠ "java/lang/invoke/VarHandle" ∧ (parseMethodDescriptor (yX12_behind).desc).map (fun d => d.parameters.length) = some 2 := by decide +kernel
theorem zd_X12_bitsOf : (yX12_bitsOf).cls ≠ "java/lang/invoke/MethodHandle" ∧ (yX12_bitsOf).cls ≠ "java/lang/invoke/VarHandle" ∧ (parseMethodDescriptor (yX12_bitsOf).desc).map (fun d => d.parameters.length) = some 1 := by decide +kernel
theorem zd_X12_both : (yX12_both).cls ≠ "java/lang/invoke/MethodHandle" ∧ (yX12_both).cls ≠ "java/lang/invoke/VarHandle" ∧ (parseMethodDescriptor (yX12_both).desc).map (fun d => d.parameters.length) = some 0 := by decide +kernel
theorem zd_X12_builds1 : (yX12_builds1).cls ≠ "java/lang/invoke/MethodHandle" ∧ (yX12_builds1).cls ≠ "java/lang/invoke/VarHandle" ∧ (parseMethodDescriptor (yX12_builds1).desc).map (fun d => d.parameters.length) = some 4 := by decide +kernel
theorem zd_X12_carry : (yX12_carry).cls ≠ "java/lang/invoke/MethodHandle" ∧ (yX12_carry).cls ≠ "java/lang/invoke/VarHandle" ∧ (parseMethodDescriptor (yX12_carry).desc).map (fun d => d.parameters.length) = some 2 := by decide +kernel
theorem zd_X12_compared : (yX12_compared).cls ≠ "java/lang/invoke/MethodHandle" ∧ (yX12_compared).cls ≠ "java/lang/invoke/VarHandle" ∧ (parseMethodDescriptor (yX12_compared).desc).map (fun d => d.parameters.length) = some 0 := by decide +kernel
theorem zd_X12_costOf : (yX12_costOf).cls ≠ "java/lang/invoke/MethodHandle" ∧ (yX12_costOf).cls ≠ "java/lang/invoke/VarHandle" ∧ (parseMethodDescriptor (yX12_costOf).desc).map (fun d => d.parameters.length) = some 1 := by decide +kernel
theorem zd_X12_doesRead : (yX12_doesRead).cls ≠ "java/lang/invoke/MethodHandle" ∧ (yX12_doesRead).cls ≠ "java/lang/invoke/VarHandle" ∧ (parseMethodDescriptor (yX12_doesRead).desc).map (fun d => d.parameters.length) = some 1 := by decide +kernel
theorem zd_X12_draw : (yX12_draw).cls ≠ "java/lang/invoke/MethodHandle" ∧ (yX12_draw).cls ≠ "java/lang/invoke/VarHandle" ∧ (parseMethodDescriptor (yX12_draw).desc).map (fun d => d.parameters.length) = some 0 := by decide +kernel
theorem zd_X12_error : (yX12_error).cls ≠ "java/lang/invoke/MethodHandle" ∧ (yX12_error).cls ≠ "java/lang/invoke/VarHandle" ∧ (parseMethodDescriptor (yX12_error).desc).map (fun d => d.parameters.length) = some 1 := by decide +kernel
theorem zd_X12_fallsBy : (yX12_fallsBy).cls ≠ "java/lang/invoke/MethodHandle" ∧ (yX12_fallsBy).cls ≠ "java/lang/invoke/VarHandle" ∧ (parseMethodDescriptor (yX12_fallsBy).desc).map (fun d => d.parameters.length) = some 2 := by decide +kernel
theorem zd_X12_findSaid : (yX12_findSaid).cls ≠ "java/lang/invoke/MethodHandle" ∧ (yX12_findSaid).cls ≠ "java/lang/invoke/VarHandle" ∧ (parseMethodDescriptor (yX12_findSaid).desc).map (fun d => d.parameters.length) = some 0 := by decide +kernel
theorem zd_X12_findWays : (yX12_findWays).cls ≠ "java/lang/invoke/MethodHandle" ∧ (yX12_findWays).cls ≠ "java/lang/invoke/VarHandle" ∧ (parseMethodDescriptor (yX12_findWays).desc).map (fun d => d.parameters.length) = some 0 := by decide +kernel
theorem zd_X12_givesLetters : (yX12_givesLetters).cls ≠ "java/lang/invoke/MethodHandle" ∧ (yX12_givesLetters).cls ≠ "java/lang/invoke/VarHandle" ∧ (parseMethodDescriptor (yX12_givesLetters).desc).map (fun d => d.parameters.length) = some 1 := by decide +kernel
theorem zd_X12_hasText : (yX12_hasText).cls ≠ "java/lang/invoke/MethodHandle" ∧ (yX12_hasText).cls ≠ "java/lang/invoke/VarHandle" ∧ (parseMethodDescriptor (yX12_hasText).desc).map (fun d => d.parameters.length) = some 1 := by decide +kernel
theorem zd_X12_held : (yX12_held).cls ≠ "java/lang/invoke/MethodHandle" ∧ (yX12_held).cls ≠ "java/lang/invoke/VarHandle" ∧ (parseMethodDescriptor (yX12_held).desc).map (fun d => d.parameters.length) = some 3 := by decide +kernel
theorem zd_X12_in : (yX12_in).cls ≠ "java/lang/invoke/MethodHandle" ∧ (yX12_in).cls ≠ "java/lang/invoke/VarHandle" ∧ (parseMethodDescriptor (yX12_in).desc).map (fun d => d.parameters.length) = some 3 := by decide +kernel
theorem zd_X12_isLetter : (yX12_isLetter).cls ≠ "java/lang/invoke/MethodHandle" ∧ (yX12_isLetter).cls ≠ "java/lang/invoke/VarHandle" ∧ (parseMethodDescriptor (yX12_isLetter).desc).map (fun d => d.parameters.length) = some 1 := by decide +kernel
theorem zd_X12_isName : (yX12_isName).cls ≠ "java/lang/invoke/MethodHandle" ∧ (yX12_isName).cls ≠ "java/lang/invoke/VarHandle" ∧ (parseMethodDescriptor (yX12_isName).desc).map (fun d => d.parameters.length) = some 1 := by decide +kernel
theorem zd_X12_isPlace : (yX12_isPlace).cls ≠ "java/lang/invoke/MethodHandle" ∧ (yX12_isPlace).cls ≠ "java/lang/invoke/VarHandle" ∧ (parseMethodDescriptor (yX12_isPlace).desc).map (fun d => d.parameters.length) = some 2 := by decide +kernel
theorem zd_X12_isSheet : (yX12_isSheet).cls ≠ "java/lang/invoke/MethodHandle" ∧ (yX12_isSheet).cls ≠ "java/lang/invoke/VarHandle" ∧ (parseMethodDescriptor (yX12_isSheet).desc).map (fun d => d.parameters.length) = some 1 := by decide +kernel
theorem zd_X12_isUnder : (yX12_isUnder).cls ≠ "java/lang/invoke/MethodHandle" ∧ (yX12_isUnder).cls ≠ "java/lang/invoke/VarHandle" ∧ (parseMethodDescriptor (yX12_isUnder).desc).map (fun d => d.parameters.length) = some 2 := by decide +kernel
theorem zd_X12_isWall : (yX12_isWall).cls ≠ "java/lang/invoke/MethodHandle" ∧ (yX12_isWall).cls ≠ "java/lang/invoke/VarHandle" ∧ (parseMethodDescriptor (yX12_isWall).desc).map (fun d => d.parameters.length) = some 1 := by decide +kernel
theorem zd_X12_isWord : (yX12_isWord).cls ≠ "java/lang/invoke/MethodHandle" ∧ (yX12_isWord).cls ≠ "java/lang/invoke/VarHandle" ∧ (parseMethodDescriptor (yX12_isWord).desc).map (fun d => d.parameters.length) = some 1 := by decide +kernel
theorem zd_X12_its : (yX12_its).cls ≠ "java/lang/invoke/MethodHandle" ∧ (yX12_its).cls ≠ "java/lang/invoke/VarHandle" ∧ (parseMethodDescriptor (yX12_its).desc).map (fun d => d.parameters.length) = some 2 := by decide +kernel
theorem zd_X12_joined : (yX12_joined).cls ≠ "java/lang/invoke/MethodHandle" ∧ (yX12_joined).cls ≠ "java/lang/invoke/VarHandle" ∧ (parseMethodDescriptor (yX12_joined).desc).map (fun d => d.parameters.length) = some 3 := by decide +kernel
theorem zd_X12_kindNow : (yX12_kindNow).cls ≠ "java/lang/invoke/MethodHandle" ∧ (yX12_kindNow).cls ≠ "java/lang/invoke/VarHandle" ∧ (parseMethodDescriptor (yX12_kindNow).desc).map (fun d => d.parameters.length) = some 0 := by decide +kernel
theorem zd_X12_lays : (yX12_lays).cls ≠ "java/lang/invoke/MethodHandle" ∧ (yX12_lays).cls ≠ "java/lang/invoke/VarHandle" ∧ (parseMethodDescriptor (yX12_lays).desc).map (fun d => d.parameters.length) = some 2 := by decide +kernel
theorem zd_X12_lengthOf : (yX12_lengthOf).cls ≠ "java/lang/invoke/MethodHandle" ∧ (yX12_lengthOf).cls ≠ "java/lang/invoke/VarHandle" ∧ (parseMethodDescriptor (yX12_lengthOf).desc).map (fun d => d.parameters.length) = some 1 := by decide +kernel
theorem zd_X12_letterOf : (yX12_letterOf).cls ≠ "java/lang/invoke/MethodHandle" ∧ (yX12_letterOf).cls ≠ "java/lang/invoke/VarHandle" ∧ (parseMethodDescriptor (yX12_letterOf).desc).map (fun d => d.parameters.length) = some 2 := by decide +kernel
theorem zd_X12_letters : (yX12_letters).cls ≠ "java/lang/invoke/MethodHandle" ∧ (yX12_letters).cls ≠ "java/lang/invoke/VarHandle" ∧ (parseMethodDescriptor (yX12_letters).desc).map (fun d => d.parameters.length) = some 1 := by decide +kernel
theorem zd_X12_look : (yX12_look).cls ≠ "java/lang/invoke/MethodHandle" ∧ (yX12_look).cls ≠ "java/lang/invoke/VarHandle" ∧ (parseMethodDescriptor (yX12_look).desc).map (fun d => d.parameters.length) = some 0 := by decide +kernel
theorem zd_X12_mNow : (yX12_mNow).cls ≠ "java/lang/invoke/MethodHandle" ∧ (yX12_mNow).cls ≠ "java/lang/invoke/VarHandle" ∧ (parseMethodDescriptor (yX12_mNow).desc).map (fun d => d.parameters.length) = some 0 := by decide +kernel
theorem zd_X12_mendsBy : (yX12_mendsBy).cls ≠ "java/lang/invoke/MethodHandle" ∧ (yX12_mendsBy).cls ≠ "java/lang/invoke/VarHandle" ∧ (parseMethodDescriptor (yX12_mendsBy).desc).map (fun d => d.parameters.length) = some 2 := by decide +kernel
theorem zd_X12_one : (yX12_one).cls ≠ "java/lang/invoke/MethodHandle" ∧ (yX12_one).cls ≠ "java/lang/invoke/VarHandle" ∧ (parseMethodDescriptor (yX12_one).desc).map (fun d => d.parameters.length) = some 0 := by decide +kernel
theorem zd_X12_opens : (yX12_opens).cls ≠ "java/lang/invoke/MethodHandle" ∧ (yX12_opens).cls ≠ "java/lang/invoke/VarHandle" ∧ (parseMethodDescriptor (yX12_opens).desc).map (fun d => d.parameters.length) = some 0 := by decide +kernel
theorem zd_X12_othersAt : (yX12_othersAt).cls ≠ "java/lang/invoke/MethodHandle" ∧ (yX12_othersAt).cls ≠ "java/lang/invoke/VarHandle" ∧ (parseMethodDescriptor (yX12_othersAt).desc).map (fun d => d.parameters.length) = some 2 := by decide +kernel
theorem zd_X12_priceOf : (yX12_priceOf).cls ≠ "java/lang/invoke/MethodHandle" ∧ (yX12_priceOf).cls ≠ "java/lang/invoke/VarHandle" ∧ (parseMethodDescriptor (yX12_priceOf).desc).map (fun d => d.parameters.length) = some 1 := by decide +kernel
theorem zd_X12_product : (yX12_product).cls ≠ "java/lang/invoke/MethodHandle" ∧ (yX12_product).cls ≠ "java/lang/invoke/VarHandle" ∧ (parseMethodDescriptor (yX12_product).desc).map (fun d => d.parameters.length) = some 0 := by decide +kernel
theorem zd_X12_reads : (yX12_reads).cls ≠ "java/lang/invoke/MethodHandle" ∧ (yX12_reads).cls ≠ "java/lang/invoke/VarHandle" ∧ (parseMethodDescriptor (yX12_reads).desc).map (fun d => d.parameters.length) = some 1 := by decide +kernel
theorem zd_X12_readsBy : (yX12_readsBy).cls ≠ "java/lang/invoke/MethodHandle" ∧ (yX12_readsBy).cls ≠ "java/lang/invoke/VarHandle" ∧ (parseMethodDescriptor (yX12_readsBy).desc).map (fun d => d.parameters.length) = some 2 := by decide +kernel
theorem zd_X12_readsWithDoor : (yX12_readsWithDoor).cls ≠ "java/lang/invoke/MethodHandle" ∧ (yX12_readsWithDoor).cls ≠ "java/lang/invoke/VarHandle" ∧ (parseMethodDescriptor (yX12_readsWithDoor).desc).map (fun d => d.parameters.length) = some 3 := by decide +kernel
theorem zd_X12_saysBy : (yX12_saysBy).cls ≠ "java/lang/invoke/MethodHandle" ∧ (yX12_saysBy).cls ≠ "java/lang/invoke/VarHandle" ∧ (parseMethodDescriptor (yX12_saysBy).desc).map (fun d => d.parameters.length) = some 2 := by decide +kernel
theorem zd_X12_sortOf : (yX12_sortOf).cls ≠ "java/lang/invoke/MethodHandle" ∧ (yX12_sortOf).cls ≠ "java/lang/invoke/VarHandle" ∧ (parseMethodDescriptor (yX12_sortOf).desc).map (fun d => d.parameters.length) = some 1 := by decide +kernel
theorem zd_X12_stuck : (yX12_stuck).cls ≠ "java/lang/invoke/MethodHandle" ∧ (yX12_stuck).cls ≠ "java/lang/invoke/VarHandle" ∧ (parseMethodDescriptor (yX12_stuck).desc).map (fun d => d.parameters.length) = some 0 := by decide +kernel
theorem zd_X12_sum : (yX12_sum).cls ≠ "java/lang/invoke/MethodHandle" ∧ (yX12_sum).cls ≠ "java/lang/invoke/VarHandle" ∧ (parseMethodDescriptor (yX12_sum).desc).map (fun d => d.parameters.length) = some 0 := by decide +kernel
theorem zd_X12_takes : (yX12_takes).cls ≠ "java/lang/invoke/MethodHandle" ∧ (yX12_takes).cls ≠ "java/lang/invoke/VarHandle" ∧ (parseMethodDescriptor (yX12_takes).desc).map (fun d => d.parameters.length) = some 1 := by decide +kernel
theorem zd_X12_takesLetters : (yX12_takesLetters).cls ≠ "java/lang/invoke/MethodHandle" ∧ (yX12_takesLetters).cls ≠ "java/lang/invoke/VarHandle" ∧ (parseMethodDescriptor (yX12_takesLetters).desc).map (fun d => d.parameters.length) = some 1 := by decide +kernel
theorem zd_X12_toHeap : (yX12_toHeap).cls ≠ "java/lang/invoke/MethodHandle" ∧ (yX12_toHeap).cls ≠ "java/lang/invoke/VarHandle" ∧ (parseMethodDescriptor (yX12_toHeap).desc).map (fun d => d.parameters.length) = some 2 := by decide +kernel
theorem zd_X12_turns : (yX12_turns).cls ≠ "java/lang/invoke/MethodHandle" ∧ (yX12_turns).cls ≠ "java/lang/invoke/VarHandle" ∧ (parseMethodDescriptor (yX12_turns).desc).map (fun d => d.parameters.length) = some 0 := by decide +kernel
theorem zd_X12_unlike : (yX12_unlike).cls ≠ "java/lang/invoke/MethodHandle" ∧ (yX12_unlike).cls ≠ "java/lang/invoke/VarHandle" ∧ (parseMethodDescriptor (yX12_unlike).desc).map (fun d => d.parameters.length) = some 2 := by decide +kernel
theorem zd_X12_whole : (yX12_whole).cls ≠ "java/lang/invoke/MethodHandle" ∧ (yX12_whole).cls ≠ "java/lang/invoke/VarHandle" ∧ (parseMethodDescriptor (yX12_whole).desc).map (fun d => d.parameters.length) = some 0 := by decide +kernel
theorem zd_X12_worked : (yX12_worked).cls ≠ "java/lang/invoke/MethodHandle" ∧ (yX12_worked).cls ≠ "java/lang/invoke/VarHandle" ∧ (parseMethodDescriptor (yX12_worked).desc).map (fun d => d.parameters.length) = some 1 := by decide +kernel
theorem zd_X1_countFromBegin : (yX1_countFromBegin).cls ≠ "java/lang/invoke/MethodHandle" ∧ (yX1_countFromBegin).cls ≠ "java/lang/invoke/VarHandle" ∧ (parseMethodDescriptor (yX1_countFromBegin).desc).map (fun d => d.parameters.length) = some 2 := by decide +kernel
theorem zd_X1_countWays : (yX1_countWays).cls ≠ "java/lang/invoke/MethodHandle" ∧ (yX1_countWays).cls ≠ "java/lang/invoke/VarHandle" ∧ (parseMethodDescriptor (yX1_countWays).desc).map (fun d => d.parameters.length) = some 2 := by decide +kernel
theorem zd_X1_fewestUnlike : (yX1_fewestUnlike).cls ≠ "java/lang/invoke/MethodHandle" ∧ (yX1_fewestUnlike).cls ≠ "java/lang/invoke/VarHandle" ∧ (parseMethodDescriptor (yX1_fewestUnlike).desc).map (fun d => d.parameters.length) = some 2 := by decide +kernel
theorem zd_X1_find : (yX1_find).cls ≠ "java/lang/invoke/MethodHandle" ∧ (yX1_find).cls ≠ "java/lang/invoke/VarHandle" ∧ (parseMethodDescriptor (yX1_find).desc).map (fun d => d.parameters.length) = some 2 := by decide +kernel
theorem zd_X1_firstNotSaid : (yX1_firstNotSaid).cls ≠ "java/lang/invoke/MethodHandle" ∧ (yX1_firstNotSaid).cls ≠ "java/lang/invoke/VarHandle" ∧ (parseMethodDescriptor (yX1_firstNotSaid).desc).map (fun d => d.parameters.length) = some 2 := by decide +kernel
theorem zd_X1_hold : (yX1_hold).cls ≠ "java/lang/invoke/MethodHandle" ∧ (yX1_hold).cls ≠ "java/lang/invoke/VarHandle" ∧ (parseMethodDescriptor (yX1_hold).desc).map (fun d => d.parameters.length) = some 2 := by decide +kernel
theorem zd_X1_leadsToEnd : (yX1_leadsToEnd).cls ≠ "java/lang/invoke/MethodHandle" ∧ (yX1_leadsToEnd).cls ≠ "java/lang/invoke/VarHandle" ∧ (parseMethodDescriptor (yX1_leadsToEnd).desc).map (fun d => d.parameters.length) = some 3 := by decide +kernel
theorem zd_X1_leastInto : (yX1_leastInto).cls ≠ "java/lang/invoke/MethodHandle" ∧ (yX1_leastInto).cls ≠ "java/lang/invoke/VarHandle" ∧ (parseMethodDescriptor (yX1_leastInto).desc).map (fun d => d.parameters.length) = some 2 := by decide +kernel
theorem zd_X1_lowestThatLeadsOn : (yX1_lowestThatLeadsOn).cls ≠ "java/lang/invoke/MethodHandle" ∧ (yX1_lowestThatLeadsOn).cls ≠ "java/lang/invoke/VarHandle" ∧ (parseMethodDescriptor (yX1_lowestThatLeadsOn).desc).map (fun d => d.parameters.length) = some 4 := by decide +kernel
theorem zd_X1_stuckAt : (yX1_stuckAt).cls ≠ "java/lang/invoke/MethodHandle" ∧ (yX1_stuckAt).cls ≠ "java/lang/invoke/VarHandle" ∧ (parseMethodDescriptor (yX1_stuckAt).desc).map (fun d => d.parameters.length) = some 2 := by decide +kernel
theorem zd_X1_waysInto : (yX1_waysInto).cls ≠ "java/lang/invoke/MethodHandle" ∧ (yX1_waysInto).cls ≠ "java/lang/invoke/VarHandle" ∧ (parseMethodDescriptor (yX1_waysInto).desc).map (fun d => d.parameters.length) = some 2 := by decide +kernel
theorem zd_X2_close : (yX2_close).cls ≠ "java/lang/invoke/MethodHandle" ∧ (yX2_close).cls ≠ "java/lang/invoke/VarHandle" ∧ (parseMethodDescriptor (yX2_close).desc).map (fun d => d.parameters.length) = some 0 := by decide +kernel
theorem zd_X2_emit : (yX2_emit).cls ≠ "java/lang/invoke/MethodHandle" ∧ (yX2_emit).cls ≠ "java/lang/invoke/VarHandle" ∧ (parseMethodDescriptor (yX2_emit).desc).map (fun d => d.parameters.length) = some 1 := by decide +kernel
theorem zd_X2_failHere : (yX2_failHere).cls ≠ "java/lang/invoke/MethodHandle" ∧ (yX2_failHere).cls ≠ "java/lang/invoke/VarHandle" ∧ (parseMethodDescriptor (yX2_failHere).desc).map (fun d => d.parameters.length) = some 0 := by decide +kernel
theorem zd_X2_faultOf : (yX2_faultOf).cls ≠ "java/lang/invoke/MethodHandle" ∧ (yX2_faultOf).cls ≠ "java/lang/invoke/VarHandle" ∧ (parseMethodDescriptor (yX2_faultOf).desc).map (fun d => d.parameters.length) = some 3 := by decide +kernel
theorem zd_X2_handTo : (yX2_handTo).cls ≠ "java/lang/invoke/MethodHandle" ∧ (yX2_handTo).cls ≠ "java/lang/invoke/VarHandle" ∧ (parseMethodDescriptor (yX2_handTo).desc).map (fun d => d.parameters.length) = some 1 := by decide +kernel
theorem zd_X2_isDigit : (yX2_isDigit).cls ≠ "java/lang/invoke/MethodHandle" ∧ (yX2_isDigit).cls ≠ "java/lang/invoke/VarHandle" ∧ (parseMethodDescriptor (yX2_isDigit).desc).map (fun d => d.parameters.length) = some 1 := by decide +kernel
theorem zd_X2_level : (yX2_level).cls ≠ "java/lang/invoke/MethodHandle" ∧ (yX2_level).cls ≠ "java/lang/invoke/VarHandle" ∧ (parseMethodDescriptor (yX2_level).desc).map (fun d => d.parameters.length) = some 2 := by decide +kernel
theorem zd_X2_next : (yX2_next).cls ≠ "java/lang/invoke/MethodHandle" ∧ (yX2_next).cls ≠ "java/lang/invoke/VarHandle" ∧ (parseMethodDescriptor (yX2_next).desc).map (fun d => d.parameters.length) = some 0 := by decide +kernel
theorem zd_X2_number : (yX2_number).cls ≠ "java/lang/invoke/MethodHandle" ∧ (yX2_number).cls ≠ "java/lang/invoke/VarHandle" ∧ (parseMethodDescriptor (yX2_number).desc).map (fun d => d.parameters.length) = some 0 := by decide +kernel
theorem zd_X2_operand : (yX2_operand).cls ≠ "java/lang/invoke/MethodHandle" ∧ (yX2_operand).cls ≠ "java/lang/invoke/VarHandle" ∧ (parseMethodDescriptor (yX2_operand).desc).map (fun d => d.parameters.length) = some 1 := by decide +kernel
theorem zd_X2_rankOf : (yX2_rankOf).cls ≠ "java/lang/invoke/MethodHandle" ∧ (yX2_rankOf).cls ≠ "java/lang/invoke/VarHandle" ∧ (parseMethodDescriptor (yX2_rankOf).desc).map (fun d => d.parameters.length) = some 1 := by decide +kernel
theorem zd_X3_append : (yX3_append).cls ≠ "java/lang/invoke/MethodHandle" ∧ (yX3_append).cls ≠ "java/lang/invoke/VarHandle" ∧ (parseMethodDescriptor (yX3_append).desc).map (fun d => d.parameters.length) = some 1 := by decide +kernel
theorem zd_X3_leaveOutSeconds : (yX3_leaveOutSeconds).cls ≠ "java/lang/invoke/MethodHandle" ∧ (yX3_leaveOutSeconds).cls ≠ "java/lang/invoke/VarHandle" ∧ (parseMethodDescriptor (yX3_leaveOutSeconds).desc).map (fun d => d.parameters.length) = some 0 := by decide +kernel
theorem zd_X3_mirrorLetters : (yX3_mirrorLetters).cls ≠ "java/lang/invoke/MethodHandle" ∧ (yX3_mirrorLetters).cls ≠ "java/lang/invoke/VarHandle" ∧ (parseMethodDescriptor (yX3_mirrorLetters).desc).map (fun d => d.parameters.length) = some 0 := by decide +kernel
theorem zd_X3_reverse : (yX3_reverse).cls ≠ "java/lang/invoke/MethodHandle" ∧ (yX3_reverse).cls ≠ "java/lang/invoke/VarHandle" ∧ (parseMethodDescriptor (yX3_reverse).desc).map (fun d => d.parameters.length) = some 0 := by decide +kernel
theorem zd_X3_turnBy : (yX3_turnBy).cls ≠ "java/lang/invoke/MethodHandle" ∧ (yX3_turnBy).cls ≠ "java/lang/invoke/VarHandle" ∧ (parseMethodDescriptor (yX3_turnBy).desc).map (fun d => d.parameters.length) = some 2 := by decide +kernel
theorem zd_X4_begin : (yX4_begin).cls ≠ "java/lang/invoke/MethodHandle" ∧ (yX4_begin).cls ≠ "java/lang/invoke/VarHandle" ∧ (parseMethodDescriptor (yX4_begin).desc).map (fun d => d.parameters.length) = some 2 := by decide +kernel
theorem zd_X4_holds : (yX4_holds).cls ≠ "java/lang/invoke/MethodHandle" ∧ (yX4_holds).cls ≠ "java/lang/invoke/VarHandle" ∧ (parseMethodDescriptor (yX4_holds).desc).map (fun d => d.parameters.length) = some 2 := by decide +kernel
theorem zd_X4_isMissing : (yX4_isMissing).cls ≠ "java/lang/invoke/MethodHandle" ∧ (yX4_isMissing).cls ≠ "java/lang/invoke/VarHandle" ∧ (parseMethodDescriptor (yX4_isMissing).desc).map (fun d => d.parameters.length) = some 0 := by decide +kernel
theorem zd_X4_write : (yX4_write).cls ≠ "java/lang/invoke/MethodHandle" ∧ (yX4_write).cls ≠ "java/lang/invoke/VarHandle" ∧ (parseMethodDescriptor (yX4_write).desc).map (fun d => d.parameters.length) = some 2 := by decide +kernel
theorem zd_X5_answer : (yX5_answer).cls ≠ "java/lang/invoke/MethodHandle" ∧ (yX5_answer).cls ≠ "java/lang/invoke/VarHandle" ∧ (parseMethodDescriptor (yX5_answer).desc).map (fun d => d.parameters.length) = some 4 := by decide +kernel
theorem zd_X5_note : (yX5_note).cls ≠ "java/lang/invoke/MethodHandle" ∧ (yX5_note).cls ≠ "java/lang/invoke/VarHandle" ∧ (parseMethodDescriptor (yX5_note).desc).map (fun d => d.parameters.length) = some 1 := by decide +kernel
theorem zd_X5_quotient : (yX5_quotient).cls ≠ "java/lang/invoke/MethodHandle" ∧ (yX5_quotient).cls ≠ "java/lang/invoke/VarHandle" ∧ (parseMethodDescriptor (yX5_quotient).desc).map (fun d => d.parameters.length) = some 2 := by decide +kernel
theorem zd_X5_sound : (yX5_sound).cls ≠ "java/lang/invoke/MethodHandle" ∧ (yX5_sound).cls ≠ "java/lang/invoke/VarHandle" ∧ (parseMethodDescriptor (yX5_sound).desc).map (fun d => d.parameters.length) = some 4 := by decide +kernel
theorem zd_X5_speak : (yX5_speak).cls ≠ "java/lang/invoke/MethodHandle" ∧ (yX5_speak).cls ≠ "java/lang/invoke/VarHandle" ∧ (parseMethodDescriptor (yX5_speak).desc).map (fun d => d.parameters.length) = some 4 := by decide +kernel
theorem zd_X6_copyFrom : (yX6_copyFrom).cls ≠ "java/lang/invoke/MethodHandle" ∧ (yX6_copyFrom).cls ≠ "java/lang/invoke/VarHandle" ∧ (parseMethodDescriptor (yX6_copyFrom).desc).map (fun d => d.parameters.length) = some 1 := by decide +kernel
theorem zd_X6_isTold : (yX6_isTold).cls ≠ "java/lang/invoke/MethodHandle" ∧ (yX6_isTold).cls ≠ "java/lang/invoke/VarHandle" ∧ (parseMethodDescriptor (yX6_isTold).desc).map (fun d => d.parameters.length) = some 0 := by decide +kernel
theorem zd_X6_joined : (yX6_joined).cls ≠ "java/lang/invoke/MethodHandle" ∧ (yX6_joined).cls ≠ "java/lang/invoke/VarHandle" ∧ (parseMethodDescriptor (yX6_joined).desc).map (fun d => d.parameters.length) = some 3 := by decide +kernel
theorem zd_X6_worth : (yX6_worth).cls ≠ "java/lang/invoke/MethodHandle" ∧ (yX6_worth).cls ≠ "java/lang/invoke/VarHandle" ∧ (parseMethodDescriptor (yX6_worth).desc).map (fun d => d.parameters.length) = some 4 := by decide +kernel
theorem zd_X7_copyFrom : (yX7_copyFrom).cls ≠ "java/lang/invoke/MethodHandle" ∧ (yX7_copyFrom).cls ≠ "java/lang/invoke/VarHandle" ∧ (parseMethodDescriptor (yX7_copyFrom).desc).map (fun d => d.parameters.length) = some 1 := by decide +kernel
theorem zd_X7_has : (yX7_has).cls ≠ "java/lang/invoke/MethodHandle" ∧ (yX7_has).cls ≠ "java/lang/invoke/VarHandle" ∧ (parseMethodDescriptor (yX7_has).desc).map (fun d => d.parameters.length) = some 1 := by decide +kernel
theorem zd_X8_copyFrom : (yX8_copyFrom).cls ≠ "java/lang/invoke/MethodHandle" ∧ (yX8_copyFrom).cls ≠ "java/lang/invoke/VarHandle" ∧ (parseMethodDescriptor (yX8_copyFrom).desc).map (fun d => d.parameters.length) = some 1 := by decide +kernel
theorem zd_X8_costOf : (yX8_costOf).cls ≠ "java/lang/invoke/MethodHandle" ∧ (yX8_costOf).cls ≠ "java/lang/invoke/VarHandle" ∧ (parseMethodDescriptor (yX8_costOf).desc).map (fun d => d.parameters.length) = some 1 := by decide +kernel
theorem zd_X8_countHeap : (yX8_countHeap).cls ≠ "java/lang/invoke/MethodHandle" ∧ (yX8_countHeap).cls ≠ "java/lang/invoke/VarHandle" ∧ (parseMethodDescriptor (yX8_countHeap).desc).map (fun d => d.parameters.length) = some 0 := by decide +kernel
theorem zd_X8_draw : (yX8_draw).cls ≠ "java/lang/invoke/MethodHandle" ∧ (yX8_draw).cls ≠ "java/lang/invoke/VarHandle" ∧ (parseMethodDescriptor (yX8_draw).desc).map (fun d => d.parameters.length) = some 0 := by decide +kernel
theorem zd_X8_dropBrick : (yX8_dropBrick).cls ≠ "java/lang/invoke/MethodHandle" ∧ (yX8_dropBrick).cls ≠ "java/lang/invoke/VarHandle" ∧ (parseMethodDescriptor (yX8_dropBrick).desc).map (fun d => d.parameters.length) = some 2 := by decide +kernel
theorem zd_X8_hasPlace : (yX8_hasPlace).cls ≠ "java/lang/invoke/MethodHandle" ∧ (yX8_hasPlace).cls ≠ "java/lang/invoke/VarHandle" ∧ (parseMethodDescriptor (yX8_hasPlace).desc).map (fun d => d.parameters.length) = some 2 := by decide +kernel
theorem zd_X8_hasWall : (yX8_hasWall).cls ≠ "java/lang/invoke/MethodHandle" ∧ (yX8_hasWall).cls ≠ "java/lang/invoke/VarHandle" ∧ (parseMethodDescriptor (yX8_hasWall).desc).map (fun d => d.parameters.length) = some 1 := by decide +kernel
theorem zd_X8_priceOf : (yX8_priceOf).cls ≠ "java/lang/invoke/MethodHandle" ∧ (yX8_priceOf).cls ≠ "java/lang/invoke/VarHandle" ∧ (parseMethodDescriptor (yX8_priceOf).desc).map (fun d => d.parameters.length) = some 1 := by decide +kernel
theorem zd_X8_spell : (yX8_spell).cls ≠ "java/lang/invoke/MethodHandle" ∧ (yX8_spell).cls ≠ "java/lang/invoke/VarHandle" ∧ (parseMethodDescriptor (yX8_spell).desc).map (fun d => d.parameters.length) = some 3 := by decide +kernel
theorem zd_X8_textOf : (yX8_textOf).cls ≠ "java/lang/invoke/MethodHandle" ∧ (yX8_textOf).cls ≠ "java/lang/invoke/VarHandle" ∧ (parseMethodDescriptor (yX8_textOf).desc).map (fun d => d.parameters.length) = some 1 := by decide +kernel
theorem zd_X9_begin : (yX9_begin).cls ≠ "java/lang/invoke/MethodHandle" ∧ (yX9_begin).cls ≠ "java/lang/invoke/VarHandle" ∧ (parseMethodDescriptor (yX9_begin).desc).map (fun d => d.parameters.length) = some 3 := by decide +kernel
theorem zd_X9_copyFrom : (yX9_copyFrom).cls ≠ "java/lang/invoke/MethodHandle" ∧ (yX9_copyFrom).cls ≠ "java/lang/invoke/VarHandle" ∧ (parseMethodDescriptor (yX9_copyFrom).desc).map (fun d => d.parameters.length) = some 1 := by decide +kernel
theorem zd_X9_countLetters : (yX9_countLetters).cls ≠ "java/lang/invoke/MethodHandle" ∧ (yX9_countLetters).cls ≠ "java/lang/invoke/VarHandle" ∧ (parseMethodDescriptor (yX9_countLetters).desc).map (fun d => d.parameters.length) = some 0 := by decide +kernel
theorem zd_X9_openFrom : (yX9_openFrom).cls ≠ "java/lang/invoke/MethodHandle" ∧ (yX9_openFrom).cls ≠ "java/lang/invoke/VarHandle" ∧ (parseMethodDescriptor (yX9_openFrom).desc).map (fun d => d.parameters.length) = some 2 := by decide +kernel
