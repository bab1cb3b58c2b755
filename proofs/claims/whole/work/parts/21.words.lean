theorem m_nil : (0 : Nat) = 0 := rfl
theorem m_tb1 {w : Cond} (h : w ∈ tables_1_1) : w ∈ tables_1 := List.mem_append_left _ h
theorem m_tb2 {w : Cond} (h : w ∈ tables_1_2) : w ∈ tables_1 := List.mem_append_right _ (List.mem_append_left _ h)
theorem m_tb3 {w : Cond} (h : w ∈ tables_1_3) : w ∈ tables_1 := List.mem_append_right _ (List.mem_append_right _ (List.mem_append_left _ h))
theorem m_tb4 {w : Cond} (h : w ∈ tables_1_4) : w ∈ tables_1 := List.mem_append_right _ (List.mem_append_right _ (List.mem_append_right _ (List.mem_append_left _ h)))
theorem m_tb5 {w : Cond} (h : w ∈ tables_1_5) : w ∈ tables_1 := List.mem_append_right _ (List.mem_append_right _ (List.mem_append_right _ (List.mem_append_right _ (List.mem_append_left _ h))))
theorem m_tb6 {w : Cond} (h : w ∈ tables_1_6) : w ∈ tables_1 := List.mem_append_right _ (List.mem_append_right _ (List.mem_append_right _ (List.mem_append_right _ (List.mem_append_right _ (List.mem_append_left _ h)))))
theorem m_tb7 {w : Cond} (h : w ∈ tables_1_7) : w ∈ tables_1 := List.mem_append_right _ (List.mem_append_right _ (List.mem_append_right _ (List.mem_append_right _ (List.mem_append_right _ (List.mem_append_right _ (List.mem_append_left _ h))))))
theorem m_tb8 {w : Cond} (h : w ∈ tables_1_8) : w ∈ tables_1 := List.mem_append_right _ (List.mem_append_right _ (List.mem_append_right _ (List.mem_append_right _ (List.mem_append_right _ (List.mem_append_right _ (List.mem_append_right _ (List.mem_append_left _ h)))))))
theorem m_tb9 {w : Cond} (h : w ∈ tables_1_9) : w ∈ tables_1 := List.mem_append_right _ (List.mem_append_right _ (List.mem_append_right _ (List.mem_append_right _ (List.mem_append_right _ (List.mem_append_right _ (List.mem_append_right _ (List.mem_append_right _ (h))))))))
theorem in_1_52 : Cond.fieldLink RX6 9 RX6 "size" "I" ∈ m_gW := m_t (m_tb1 (List.mem_of_getElem? (i := 52) rfl)) rfl
theorem in_1_53 : Cond.fieldLink RX5 113 RX6 "size" "I" ∈ m_gW := m_t (m_tb1 (List.mem_of_getElem? (i := 53) rfl)) rfl
theorem in_1_54 : Cond.fieldLink RX11 338 RX6 "size" "I" ∈ m_gW := m_t (m_tb1 (List.mem_of_getElem? (i := 54) rfl)) rfl
theorem in_1_55 : Cond.fieldLink RX6 15 RX6 "finite" "I" ∈ m_gW := m_t (m_tb1 (List.mem_of_getElem? (i := 55) rfl)) rfl
theorem in_1_56 : Cond.fieldLink RX11 348 RX6 "finite" "I" ∈ m_gW := m_t (m_tb1 (List.mem_of_getElem? (i := 56) rfl)) rfl
theorem in_1_57 : Cond.fieldLink RX6 18 RX6 "points" "[I" ∈ m_gW := m_t (m_tb1 (List.mem_of_getElem? (i := 57) rfl)) rfl
theorem in_1_58 : Cond.fieldLink RX5 125 RX6 "points" "[I" ∈ m_gW := m_t (m_tb1 (List.mem_of_getElem? (i := 58) rfl)) rfl
theorem in_1_59 : Cond.fieldLink RX6 22 RX6 "varReach" "[I" ∈ m_gW := m_t (m_tb1 (List.mem_of_getElem? (i := 59) rfl)) rfl
theorem in_1_60 : Cond.fieldLink RX6 25 RX6 "left" "[I" ∈ m_gW := m_t (m_tb1 (List.mem_of_getElem? (i := 60) rfl)) rfl
theorem in_1_61 : Cond.fieldLink RX11 185 RX6 "left" "[I" ∈ m_gW := m_t (m_tb1 (List.mem_of_getElem? (i := 61) rfl)) rfl
theorem in_1_62 : Cond.fieldLink RX5 128 RX6 "left" "[I" ∈ m_gW := m_t (m_tb1 (List.mem_of_getElem? (i := 62) rfl)) rfl
theorem in_1_63 : Cond.fieldLink RX6 28 RX6 "right" "[I" ∈ m_gW := m_t (m_tb1 (List.mem_of_getElem? (i := 63) rfl)) rfl
theorem in_1_64 : Cond.fieldLink RX11 188 RX6 "right" "[I" ∈ m_gW := m_t (m_tb1 (List.mem_of_getElem? (i := 64) rfl)) rfl
theorem in_1_65 : Cond.fieldLink RX5 131 RX6 "right" "[I" ∈ m_gW := m_t (m_tb1 (List.mem_of_getElem? (i := 65) rfl)) rfl
theorem in_1_66 : Cond.fieldLink RX6 31 RX6 "reach" "[I" ∈ m_gW := m_t (m_tb1 (List.mem_of_getElem? (i := 66) rfl)) rfl
theorem in_1_67 : Cond.fieldLink RX6 34 RX6 "ownedBy" "[I" ∈ m_gW := m_t (m_tb1 (List.mem_of_getElem? (i := 67) rfl)) rfl
theorem in_1_68 : Cond.fieldLink RX7 70 RX6 "ownedBy" "[I" ∈ m_gW := m_t (m_tb1 (List.mem_of_getElem? (i := 68) rfl)) rfl
theorem in_1_69 : Cond.fieldLink RX11 191 RX6 "ownedBy" "[I" ∈ m_gW := m_t (m_tb1 (List.mem_of_getElem? (i := 69) rfl)) rfl
theorem in_1_70 : Cond.fieldLink RX6 37 RX6 "filledBy" "[I" ∈ m_gW := m_t (m_tb1 (List.mem_of_getElem? (i := 70) rfl)) rfl
theorem in_1_71 : Cond.fieldLink RX7 73 RX6 "filledBy" "[I" ∈ m_gW := m_t (m_tb1 (List.mem_of_getElem? (i := 71) rfl)) rfl
theorem in_1_72 : Cond.fieldLink RX11 194 RX6 "filledBy" "[I" ∈ m_gW := m_t (m_tb1 (List.mem_of_getElem? (i := 72) rfl)) rfl
theorem in_1_73 : Cond.fieldLink RX6 40 RX6 "outer" "[I" ∈ m_gW := m_t (m_tb1 (List.mem_of_getElem? (i := 73) rfl)) rfl
theorem in_1_74 : Cond.fieldLink RX2 98 RX6 "outer" "[I" ∈ m_gW := m_t (m_tb1 (List.mem_of_getElem? (i := 74) rfl)) rfl
theorem in_1_75 : Cond.fieldLink RX7 61 RX6 "outer" "[I" ∈ m_gW := m_t (m_tb1 (List.mem_of_getElem? (i := 75) rfl)) rfl
theorem in_1_76 : Cond.fieldLink RX11 165 RX6 "outer" "[I" ∈ m_gW := m_t (m_tb1 (List.mem_of_getElem? (i := 76) rfl)) rfl
theorem in_1_77 : Cond.fieldLink RX6 43 RX6 "owns" "[I" ∈ m_gW := m_t (m_tb1 (List.mem_of_getElem? (i := 77) rfl)) rfl
theorem in_1_78 : Cond.fieldLink RX11 168 RX6 "owns" "[I" ∈ m_gW := m_t (m_tb1 (List.mem_of_getElem? (i := 78) rfl)) rfl
theorem in_1_79 : Cond.fieldLink RX6 46 RX6 "spanFirst" "[I" ∈ m_gW := m_t (m_tb1 (List.mem_of_getElem? (i := 79) rfl)) rfl
theorem in_1_80 : Cond.fieldLink RX11 209 RX6 "spanFirst" "[I" ∈ m_gW := m_t (m_tb1 (List.mem_of_getElem? (i := 80) rfl)) rfl
theorem in_1_81 : Cond.fieldLink RX6 49 RX6 "spanLast" "[I" ∈ m_gW := m_t (m_tb1 (List.mem_of_getElem? (i := 81) rfl)) rfl
theorem in_1_82 : Cond.fieldLink RX11 212 RX6 "spanLast" "[I" ∈ m_gW := m_t (m_tb1 (List.mem_of_getElem? (i := 82) rfl)) rfl
theorem in_1_83 : Cond.fieldLink RX6 52 RX6 "begins" "[I" ∈ m_gW := m_t (m_tb1 (List.mem_of_getElem? (i := 83) rfl)) rfl
theorem in_1_84 : Cond.fieldLink RX2 129 RX6 "begins" "[I" ∈ m_gW := m_t (m_tb1 (List.mem_of_getElem? (i := 84) rfl)) rfl
theorem in_1_85 : Cond.fieldLink RX6 55 RX6 "ends" "[I" ∈ m_gW := m_t (m_tb1 (List.mem_of_getElem? (i := 85) rfl)) rfl
theorem in_1_86 : Cond.fieldLink RX3 72 RX6 "ends" "[I" ∈ m_gW := m_t (m_tb1 (List.mem_of_getElem? (i := 86) rfl)) rfl
theorem in_1_87 : Cond.fieldLink RX2 222 RX6 "ends" "[I" ∈ m_gW := m_t (m_tb1 (List.mem_of_getElem? (i := 87) rfl)) rfl
theorem in_1_122 : Cond.fieldLink RX3 9 RX3 "funs" "I" ∈ m_gW := m_t (m_tb1 (List.mem_of_getElem? (i := 122) rfl)) rfl
theorem in_1_123 : Cond.fieldLink RX5 31 RX3 "funs" "I" ∈ m_gW := m_t (m_tb1 (List.mem_of_getElem? (i := 123) rfl)) rfl
theorem in_1_124 : Cond.fieldLink RX4 65 RX3 "funs" "I" ∈ m_gW := m_t (m_tb1 (List.mem_of_getElem? (i := 124) rfl)) rfl
theorem in_1_125 : Cond.fieldLink RX2 89 RX3 "funs" "I" ∈ m_gW := m_t (m_tb1 (List.mem_of_getElem? (i := 125) rfl)) rfl
theorem in_1_126 : Cond.fieldLink RX11 142 RX3 "funs" "I" ∈ m_gW := m_t (m_tb1 (List.mem_of_getElem? (i := 126) rfl)) rfl
theorem in_1_127 : Cond.fieldLink RX7 58 RX3 "funs" "I" ∈ m_gW := m_t (m_tb1 (List.mem_of_getElem? (i := 127) rfl)) rfl
theorem in_1_128 : Cond.fieldLink RX6 77 RX3 "funs" "I" ∈ m_gW := m_t (m_tb1 (List.mem_of_getElem? (i := 128) rfl)) rfl
theorem in_1_129 : Cond.fieldLink RX3 15 RX3 "lines" "I" ∈ m_gW := m_t (m_tb1 (List.mem_of_getElem? (i := 129) rfl)) rfl
theorem in_1_130 : Cond.fieldLink RX11 145 RX3 "lines" "I" ∈ m_gW := m_t (m_tb1 (List.mem_of_getElem? (i := 130) rfl)) rfl
theorem in_1_131 : Cond.fieldLink RX4 99 RX3 "lines" "I" ∈ m_gW := m_t (m_tb1 (List.mem_of_getElem? (i := 131) rfl)) rfl
theorem in_1_132 : Cond.fieldLink RX3 18 RX3 "name" "[J" ∈ m_gW := m_t (m_tb1 (List.mem_of_getElem? (i := 132) rfl)) rfl
theorem in_1_133 : Cond.fieldLink RX3 22 RX3 "parameters" "[I" ∈ m_gW := m_t (m_tb1 (List.mem_of_getElem? (i := 133) rfl)) rfl
theorem in_1_134 : Cond.fieldLink RX4 96 RX3 "parameters" "[I" ∈ m_gW := m_t (m_tb1 (List.mem_of_getElem? (i := 134) rfl)) rfl
theorem in_1_135 : Cond.fieldLink RX11 155 RX3 "parameters" "[I" ∈ m_gW := m_t (m_tb1 (List.mem_of_getElem? (i := 135) rfl)) rfl
theorem in_1_136 : Cond.fieldLink RX5 97 RX3 "parameters" "[I" ∈ m_gW := m_t (m_tb1 (List.mem_of_getElem? (i := 136) rfl)) rfl
theorem in_1_137 : Cond.fieldLink RX6 112 RX3 "parameters" "[I" ∈ m_gW := m_t (m_tb1 (List.mem_of_getElem? (i := 137) rfl)) rfl
theorem in_1_138 : Cond.fieldLink RX2 219 RX3 "parameters" "[I" ∈ m_gW := m_t (m_tb1 (List.mem_of_getElem? (i := 138) rfl)) rfl
theorem in_1_139 : Cond.fieldLink RX3 26 RX3 "firstLine" "[I" ∈ m_gW := m_t (m_tb1 (List.mem_of_getElem? (i := 139) rfl)) rfl
theorem in_1_140 : Cond.fieldLink RX5 36 RX3 "firstLine" "[I" ∈ m_gW := m_t (m_tb1 (List.mem_of_getElem? (i := 140) rfl)) rfl
theorem in_1_141 : Cond.fieldLink RX6 118 RX3 "firstLine" "[I" ∈ m_gW := m_t (m_tb1 (List.mem_of_getElem? (i := 141) rfl)) rfl
theorem in_1_142 : Cond.fieldLink RX2 126 RX3 "firstLine" "[I" ∈ m_gW := m_t (m_tb1 (List.mem_of_getElem? (i := 142) rfl)) rfl
theorem in_1_143 : Cond.fieldLink RX3 29 RX3 "lineCount" "[I" ∈ m_gW := m_t (m_tb1 (List.mem_of_getElem? (i := 143) rfl)) rfl
theorem in_1_144 : Cond.fieldLink RX5 39 RX3 "lineCount" "[I" ∈ m_gW := m_t (m_tb1 (List.mem_of_getElem? (i := 144) rfl)) rfl
theorem in_1_145 : Cond.fieldLink RX4 68 RX3 "lineCount" "[I" ∈ m_gW := m_t (m_tb1 (List.mem_of_getElem? (i := 145) rfl)) rfl
theorem in_1_146 : Cond.fieldLink RX11 158 RX3 "lineCount" "[I" ∈ m_gW := m_t (m_tb1 (List.mem_of_getElem? (i := 146) rfl)) rfl
theorem in_1_147 : Cond.fieldLink RX6 121 RX3 "lineCount" "[I" ∈ m_gW := m_t (m_tb1 (List.mem_of_getElem? (i := 147) rfl)) rfl
theorem in_1_148 : Cond.fieldLink RX2 228 RX3 "lineCount" "[I" ∈ m_gW := m_t (m_tb1 (List.mem_of_getElem? (i := 148) rfl)) rfl
theorem in_1_149 : Cond.fieldLink RX3 32 RX3 "expr" "[I" ∈ m_gW := m_t (m_tb1 (List.mem_of_getElem? (i := 149) rfl)) rfl
theorem in_1_150 : Cond.fieldLink RX5 69 RX3 "expr" "[I" ∈ m_gW := m_t (m_tb1 (List.mem_of_getElem? (i := 150) rfl)) rfl
theorem in_1_151 : Cond.fieldLink RX4 111 RX3 "expr" "[I" ∈ m_gW := m_t (m_tb1 (List.mem_of_getElem? (i := 151) rfl)) rfl
theorem in_1_152 : Cond.fieldLink RX6 127 RX3 "expr" "[I" ∈ m_gW := m_t (m_tb1 (List.mem_of_getElem? (i := 152) rfl)) rfl
theorem in_1_153 : Cond.fieldLink RX2 151 RX3 "expr" "[I" ∈ m_gW := m_t (m_tb1 (List.mem_of_getElem? (i := 153) rfl)) rfl
theorem in_1_154 : Cond.fieldLink RX3 35 RX3 "callee" "[I" ∈ m_gW := m_t (m_tb1 (List.mem_of_getElem? (i := 154) rfl)) rfl
theorem in_1_155 : Cond.fieldLink RX5 94 RX3 "callee" "[I" ∈ m_gW := m_t (m_tb1 (List.mem_of_getElem? (i := 155) rfl)) rfl
theorem in_1_156 : Cond.fieldLink RX4 134 RX3 "callee" "[I" ∈ m_gW := m_t (m_tb1 (List.mem_of_getElem? (i := 156) rfl)) rfl
theorem in_1_157 : Cond.fieldLink RX2 177 RX3 "callee" "[I" ∈ m_gW := m_t (m_tb1 (List.mem_of_getElem? (i := 157) rfl)) rfl
theorem in_1_158 : Cond.fieldLink RX3 38 RX3 "operand" "[I" ∈ m_gW := m_t (m_tb1 (List.mem_of_getElem? (i := 158) rfl)) rfl
theorem in_1_159 : Cond.fieldLink RX4 114 RX3 "operand" "[I" ∈ m_gW := m_t (m_tb1 (List.mem_of_getElem? (i := 159) rfl)) rfl
theorem in_1_160 : Cond.fieldLink RX3 44 RX3 "regions" "LRegionRooms$Regions;" ∈ m_gW := m_t (m_tb1 (List.mem_of_getElem? (i := 160) rfl)) rfl
theorem in_1_161 : Cond.fieldLink RX2 94 RX3 "regions" "LRegionRooms$Regions;" ∈ m_gW := m_t (m_tb1 (List.mem_of_getElem? (i := 161) rfl)) rfl
theorem in_1_162 : Cond.fieldLink RX11 111 RX3 "regions" "LRegionRooms$Regions;" ∈ m_gW := m_t (m_tb1 (List.mem_of_getElem? (i := 162) rfl)) rfl
theorem in_1_163 : Cond.fieldLink RX7 46 RX3 "regions" "LRegionRooms$Regions;" ∈ m_gW := m_t (m_tb1 (List.mem_of_getElem? (i := 163) rfl)) rfl
theorem in_1_164 : Cond.fieldLink RX5 109 RX3 "regions" "LRegionRooms$Regions;" ∈ m_gW := m_t (m_tb1 (List.mem_of_getElem? (i := 164) rfl)) rfl
theorem in_1_205 : Cond.fieldLink RJ0 38 RJ0 "COMPACT_STRINGS" "Z" ∈ m_gW := m_t (m_tb1 (List.mem_of_getElem? (i := 205) rfl)) rfl
theorem in_1_221 : Cond.fieldLink RJ0 1053 RJ3 "SIOOBE_FORMATTER" "Ljava/util/function/BiFunction;" ∈ m_gW := m_t (m_tb1 (List.mem_of_getElem? (i := 221) rfl)) rfl
theorem in_1_239 : Cond.fieldLink RJ2 44 RJ2 "$assertionsDisabled" "Z" ∈ m_gW := m_t (m_tb1 (List.mem_of_getElem? (i := 239) rfl)) rfl
theorem in_2_1 : Cond.fieldLink RJ2 59 RJ2 "HI_BYTE_SHIFT" "I" ∈ m_gW := m_t (m_tb2 (List.mem_of_getElem? (i := 1) rfl)) rfl
theorem in_2_3 : Cond.fieldLink RJ2 63 RJ2 "LO_BYTE_SHIFT" "I" ∈ m_gW := m_t (m_tb2 (List.mem_of_getElem? (i := 3) rfl)) rfl
theorem in_2_9 : Cond.fieldLink RX9 61 RX9 "bytesMost" "I" ∈ m_gW := m_t (m_tb2 (List.mem_of_getElem? (i := 9) rfl)) rfl
theorem in_2_10 : Cond.fieldLink RX9 9 RX9 "keywords" "[J" ∈ m_gW := m_t (m_tb2 (List.mem_of_getElem? (i := 10) rfl)) rfl
theorem in_2_11 : Cond.fieldLink RX9 64 RX9 "kinds" "[I" ∈ m_gW := m_t (m_tb2 (List.mem_of_getElem? (i := 11) rfl)) rfl
theorem in_2_12 : Cond.fieldLink RX9 68 RX9 "places" "[I" ∈ m_gW := m_t (m_tb2 (List.mem_of_getElem? (i := 12) rfl)) rfl
theorem in_2_13 : Cond.fieldLink RX9 71 RX9 "contents" "[J" ∈ m_gW := m_t (m_tb2 (List.mem_of_getElem? (i := 13) rfl)) rfl
theorem in_2_14 : Cond.fieldLink RX9 15 RX9 "length" "I" ∈ m_gW := m_t (m_tb2 (List.mem_of_getElem? (i := 14) rfl)) rfl
theorem in_2_15 : Cond.fieldLink RX9 19 RX9 "next" "I" ∈ m_gW := m_t (m_tb2 (List.mem_of_getElem? (i := 15) rfl)) rfl
theorem in_2_16 : Cond.fieldLink RX9 22 RX9 "size" "I" ∈ m_gW := m_t (m_tb2 (List.mem_of_getElem? (i := 16) rfl)) rfl
theorem in_2_17 : Cond.fieldLink RX9 25 RX9 "at" "I" ∈ m_gW := m_t (m_tb2 (List.mem_of_getElem? (i := 17) rfl)) rfl
theorem in_2_18 : Cond.fieldLink RX9 28 RX9 "token" "I" ∈ m_gW := m_t (m_tb2 (List.mem_of_getElem? (i := 18) rfl)) rfl
theorem in_2_19 : Cond.fieldLink RX4 42 RX9 "token" "I" ∈ m_gW := m_t (m_tb2 (List.mem_of_getElem? (i := 19) rfl)) rfl
theorem in_2_20 : Cond.fieldLink RX8 38 RX9 "token" "I" ∈ m_gW := m_t (m_tb2 (List.mem_of_getElem? (i := 20) rfl)) rfl
theorem in_2_21 : Cond.fieldLink RX9 31 RX9 "place" "I" ∈ m_gW := m_t (m_tb2 (List.mem_of_getElem? (i := 21) rfl)) rfl
theorem in_2_22 : Cond.fieldLink RX9 34 RX9 "keyword" "I" ∈ m_gW := m_t (m_tb2 (List.mem_of_getElem? (i := 22) rfl)) rfl
theorem in_2_23 : Cond.fieldLink RX4 45 RX9 "keyword" "I" ∈ m_gW := m_t (m_tb2 (List.mem_of_getElem? (i := 23) rfl)) rfl
theorem in_2_24 : Cond.fieldLink RX8 53 RX9 "keyword" "I" ∈ m_gW := m_t (m_tb2 (List.mem_of_getElem? (i := 24) rfl)) rfl
theorem in_2_25 : Cond.fieldLink RX9 37 RX9 "number" "I" ∈ m_gW := m_t (m_tb2 (List.mem_of_getElem? (i := 25) rfl)) rfl
theorem in_2_26 : Cond.fieldLink RX4 117 RX9 "number" "I" ∈ m_gW := m_t (m_tb2 (List.mem_of_getElem? (i := 26) rfl)) rfl
theorem in_2_27 : Cond.fieldLink RX8 91 RX9 "number" "I" ∈ m_gW := m_t (m_tb2 (List.mem_of_getElem? (i := 27) rfl)) rfl
theorem in_2_28 : Cond.fieldLink RX9 40 RX9 "sign" "I" ∈ m_gW := m_t (m_tb2 (List.mem_of_getElem? (i := 28) rfl)) rfl
theorem in_2_29 : Cond.fieldLink RX8 66 RX9 "sign" "I" ∈ m_gW := m_t (m_tb2 (List.mem_of_getElem? (i := 29) rfl)) rfl
theorem in_2_30 : Cond.fieldLink RX9 45 RX9 "word" "J" ∈ m_gW := m_t (m_tb2 (List.mem_of_getElem? (i := 30) rfl)) rfl
theorem in_2_31 : Cond.fieldLink RX4 75 RX9 "word" "J" ∈ m_gW := m_t (m_tb2 (List.mem_of_getElem? (i := 31) rfl)) rfl
theorem in_2_32 : Cond.fieldLink RX8 81 RX9 "word" "J" ∈ m_gW := m_t (m_tb2 (List.mem_of_getElem? (i := 32) rfl)) rfl
theorem in_2_33 : Cond.fieldLink RX9 49 RX9 "faultKind" "I" ∈ m_gW := m_t (m_tb2 (List.mem_of_getElem? (i := 33) rfl)) rfl
theorem in_2_34 : Cond.fieldLink RX11 97 RX9 "faultKind" "I" ∈ m_gW := m_t (m_tb2 (List.mem_of_getElem? (i := 34) rfl)) rfl
theorem in_2_35 : Cond.fieldLink RX9 52 RX9 "faultPlace" "I" ∈ m_gW := m_t (m_tb2 (List.mem_of_getElem? (i := 35) rfl)) rfl
theorem in_2_36 : Cond.fieldLink RX11 100 RX9 "faultPlace" "I" ∈ m_gW := m_t (m_tb2 (List.mem_of_getElem? (i := 36) rfl)) rfl
theorem in_2_72 : Cond.fieldLink RX4 12 RX4 "made" "LRegionRooms$Program;" ∈ m_gW := m_t (m_tb2 (List.mem_of_getElem? (i := 72) rfl)) rfl
theorem in_2_73 : Cond.fieldLink RX11 103 RX4 "made" "LRegionRooms$Program;" ∈ m_gW := m_t (m_tb2 (List.mem_of_getElem? (i := 73) rfl)) rfl
theorem in_2_74 : Cond.fieldLink RX4 23 RX4 "text" "LRegionRooms$Tokens;" ∈ m_gW := m_t (m_tb2 (List.mem_of_getElem? (i := 74) rfl)) rfl
theorem in_2_75 : Cond.fieldLink RX11 93 RX4 "text" "LRegionRooms$Tokens;" ∈ m_gW := m_t (m_tb2 (List.mem_of_getElem? (i := 75) rfl)) rfl
theorem in_2_76 : Cond.fieldLink RX4 27 RX4 "varWords" "[J" ∈ m_gW := m_t (m_tb2 (List.mem_of_getElem? (i := 76) rfl)) rfl
theorem in_2_77 : Cond.fieldLink RX4 31 RX4 "vars" "I" ∈ m_gW := m_t (m_tb2 (List.mem_of_getElem? (i := 77) rfl)) rfl
theorem in_2_99 : Cond.fieldLink RX7 9 RX7 "told" "Z" ∈ m_gW := m_t (m_tb2 (List.mem_of_getElem? (i := 99) rfl)) rfl
theorem in_2_100 : Cond.fieldLink RX8 42 RX7 "told" "Z" ∈ m_gW := m_t (m_tb2 (List.mem_of_getElem? (i := 100) rfl)) rfl
theorem in_2_101 : Cond.fieldLink RX11 335 RX7 "told" "Z" ∈ m_gW := m_t (m_tb2 (List.mem_of_getElem? (i := 101) rfl)) rfl
theorem in_2_102 : Cond.fieldLink RX7 15 RX7 "ones" "I" ∈ m_gW := m_t (m_tb2 (List.mem_of_getElem? (i := 102) rfl)) rfl
theorem in_2_103 : Cond.fieldLink RX8 69 RX7 "ones" "I" ∈ m_gW := m_t (m_tb2 (List.mem_of_getElem? (i := 103) rfl)) rfl
theorem in_2_104 : Cond.fieldLink RX11 332 RX7 "ones" "I" ∈ m_gW := m_t (m_tb2 (List.mem_of_getElem? (i := 104) rfl)) rfl
theorem in_2_105 : Cond.fieldLink RX7 19 RX7 "size" "I" ∈ m_gW := m_t (m_tb2 (List.mem_of_getElem? (i := 105) rfl)) rfl
theorem in_2_106 : Cond.fieldLink RX7 22 RX7 "words" "[I" ∈ m_gW := m_t (m_tb2 (List.mem_of_getElem? (i := 106) rfl)) rfl
theorem in_2_107 : Cond.fieldLink RX7 26 RX7 "signs" "[I" ∈ m_gW := m_t (m_tb2 (List.mem_of_getElem? (i := 107) rfl)) rfl
theorem in_2_108 : Cond.fieldLink RX7 29 RX7 "numbers" "[I" ∈ m_gW := m_t (m_tb2 (List.mem_of_getElem? (i := 108) rfl)) rfl
theorem in_2_109 : Cond.fieldLink RX7 32 RX7 "answers" "[Z" ∈ m_gW := m_t (m_tb2 (List.mem_of_getElem? (i := 109) rfl)) rfl
theorem in_2_128 : Cond.fieldLink RX8 12 RX8 "made" "LRegionRooms$Sentence;" ∈ m_gW := m_t (m_tb2 (List.mem_of_getElem? (i := 128) rfl)) rfl
theorem in_2_129 : Cond.fieldLink RX11 327 RX8 "made" "LRegionRooms$Sentence;" ∈ m_gW := m_t (m_tb2 (List.mem_of_getElem? (i := 129) rfl)) rfl
theorem in_2_130 : Cond.fieldLink RX8 23 RX8 "text" "LRegionRooms$Tokens;" ∈ m_gW := m_t (m_tb2 (List.mem_of_getElem? (i := 130) rfl)) rfl
theorem in_2_131 : Cond.fieldLink RX11 326 RX8 "text" "LRegionRooms$Tokens;" ∈ m_gW := m_t (m_tb2 (List.mem_of_getElem? (i := 131) rfl)) rfl
theorem in_2_143 : Cond.fieldLink RX5 11 RX5 "parent" "[I" ∈ m_gW := m_t (m_tb2 (List.mem_of_getElem? (i := 143) rfl)) rfl
theorem in_2_144 : Cond.fieldLink RX5 15 RX5 "leftNode" "[I" ∈ m_gW := m_t (m_tb2 (List.mem_of_getElem? (i := 144) rfl)) rfl
theorem in_2_145 : Cond.fieldLink RX5 18 RX5 "rightNode" "[I" ∈ m_gW := m_t (m_tb2 (List.mem_of_getElem? (i := 145) rfl)) rfl
theorem in_2_146 : Cond.fieldLink RX5 21 RX5 "numberOf" "[I" ∈ m_gW := m_t (m_tb2 (List.mem_of_getElem? (i := 146) rfl)) rfl
theorem in_2_147 : Cond.fieldLink RX5 24 RX5 "used" "I" ∈ m_gW := m_t (m_tb2 (List.mem_of_getElem? (i := 147) rfl)) rfl
theorem in_2_176 : Cond.fieldLink RX2 9 RX2 "state" "I" ∈ m_gW := m_t (m_tb2 (List.mem_of_getElem? (i := 176) rfl)) rfl
theorem in_2_177 : Cond.fieldLink RX11 225 RX2 "state" "I" ∈ m_gW := m_t (m_tb2 (List.mem_of_getElem? (i := 177) rfl)) rfl
theorem in_2_178 : Cond.fieldLink RX2 15 RX2 "why" "I" ∈ m_gW := m_t (m_tb2 (List.mem_of_getElem? (i := 178) rfl)) rfl
theorem in_2_179 : Cond.fieldLink RX11 231 RX2 "why" "I" ∈ m_gW := m_t (m_tb2 (List.mem_of_getElem? (i := 179) rfl)) rfl
theorem in_2_180 : Cond.fieldLink RX2 18 RX2 "frames" "I" ∈ m_gW := m_t (m_tb2 (List.mem_of_getElem? (i := 180) rfl)) rfl
theorem in_2_181 : Cond.fieldLink RX1 23 RX2 "frames" "I" ∈ m_gW := m_t (m_tb2 (List.mem_of_getElem? (i := 181) rfl)) rfl
theorem in_2_182 : Cond.fieldLink RX11 234 RX2 "frames" "I" ∈ m_gW := m_t (m_tb2 (List.mem_of_getElem? (i := 182) rfl)) rfl
theorem in_2_183 : Cond.fieldLink RX2 21 RX2 "rooms" "I" ∈ m_gW := m_t (m_tb2 (List.mem_of_getElem? (i := 183) rfl)) rfl
theorem in_2_184 : Cond.fieldLink RX11 246 RX2 "rooms" "I" ∈ m_gW := m_t (m_tb2 (List.mem_of_getElem? (i := 184) rfl)) rfl
theorem in_2_185 : Cond.fieldLink RX2 24 RX2 "cells" "I" ∈ m_gW := m_t (m_tb2 (List.mem_of_getElem? (i := 185) rfl)) rfl
theorem in_2_186 : Cond.fieldLink RX11 243 RX2 "cells" "I" ∈ m_gW := m_t (m_tb2 (List.mem_of_getElem? (i := 186) rfl)) rfl
theorem in_2_187 : Cond.fieldLink RX2 27 RX2 "most" "I" ∈ m_gW := m_t (m_tb2 (List.mem_of_getElem? (i := 187) rfl)) rfl
theorem in_2_188 : Cond.fieldLink RX11 249 RX2 "most" "I" ∈ m_gW := m_t (m_tb2 (List.mem_of_getElem? (i := 188) rfl)) rfl
theorem in_2_189 : Cond.fieldLink RX2 30 RX2 "stepCount" "I" ∈ m_gW := m_t (m_tb2 (List.mem_of_getElem? (i := 189) rfl)) rfl
theorem in_2_190 : Cond.fieldLink RX11 252 RX2 "stepCount" "I" ∈ m_gW := m_t (m_tb2 (List.mem_of_getElem? (i := 190) rfl)) rfl
theorem in_2_191 : Cond.fieldLink RX2 33 RX2 "laid" "I" ∈ m_gW := m_t (m_tb2 (List.mem_of_getElem? (i := 191) rfl)) rfl
theorem in_2_192 : Cond.fieldLink RX11 255 RX2 "laid" "I" ∈ m_gW := m_t (m_tb2 (List.mem_of_getElem? (i := 192) rfl)) rfl
theorem in_2_193 : Cond.fieldLink RX2 36 RX2 "leftAhead" "I" ∈ m_gW := m_t (m_tb2 (List.mem_of_getElem? (i := 193) rfl)) rfl
theorem in_2_194 : Cond.fieldLink RX11 258 RX2 "leftAhead" "I" ∈ m_gW := m_t (m_tb2 (List.mem_of_getElem? (i := 194) rfl)) rfl
theorem in_2_195 : Cond.fieldLink RX2 39 RX2 "givenKind" "I" ∈ m_gW := m_t (m_tb2 (List.mem_of_getElem? (i := 195) rfl)) rfl
theorem in_2_196 : Cond.fieldLink RX2 42 RX2 "givenValue" "I" ∈ m_gW := m_t (m_tb2 (List.mem_of_getElem? (i := 196) rfl)) rfl
theorem in_2_197 : Cond.fieldLink RX1 51 RX2 "givenValue" "I" ∈ m_gW := m_t (m_tb2 (List.mem_of_getElem? (i := 197) rfl)) rfl
theorem in_2_198 : Cond.fieldLink RX11 285 RX2 "givenValue" "I" ∈ m_gW := m_t (m_tb2 (List.mem_of_getElem? (i := 198) rfl)) rfl
theorem in_2_199 : Cond.fieldLink RX2 45 RX2 "lost" "Z" ∈ m_gW := m_t (m_tb2 (List.mem_of_getElem? (i := 199) rfl)) rfl
theorem in_2_200 : Cond.fieldLink RX11 305 RX2 "lost" "Z" ∈ m_gW := m_t (m_tb2 (List.mem_of_getElem? (i := 200) rfl)) rfl
theorem in_2_201 : Cond.fieldLink RX2 49 RX2 "frameFun" "[I" ∈ m_gW := m_t (m_tb2 (List.mem_of_getElem? (i := 201) rfl)) rfl
theorem in_2_202 : Cond.fieldLink RX1 28 RX2 "frameFun" "[I" ∈ m_gW := m_t (m_tb2 (List.mem_of_getElem? (i := 202) rfl)) rfl
theorem in_2_203 : Cond.fieldLink RX2 53 RX2 "frameLine" "[I" ∈ m_gW := m_t (m_tb2 (List.mem_of_getElem? (i := 203) rfl)) rfl
theorem in_2_204 : Cond.fieldLink RX2 56 RX2 "varKind" "[I" ∈ m_gW := m_t (m_tb2 (List.mem_of_getElem? (i := 204) rfl)) rfl
theorem in_2_205 : Cond.fieldLink RX1 37 RX2 "varKind" "[I" ∈ m_gW := m_t (m_tb2 (List.mem_of_getElem? (i := 205) rfl)) rfl
theorem in_2_206 : Cond.fieldLink RX11 264 RX2 "varKind" "[I" ∈ m_gW := m_t (m_tb2 (List.mem_of_getElem? (i := 206) rfl)) rfl
theorem in_2_207 : Cond.fieldLink RX2 59 RX2 "varValue" "[I" ∈ m_gW := m_t (m_tb2 (List.mem_of_getElem? (i := 207) rfl)) rfl
theorem in_2_208 : Cond.fieldLink RX1 40 RX2 "varValue" "[I" ∈ m_gW := m_t (m_tb2 (List.mem_of_getElem? (i := 208) rfl)) rfl
theorem in_2_209 : Cond.fieldLink RX11 267 RX2 "varValue" "[I" ∈ m_gW := m_t (m_tb2 (List.mem_of_getElem? (i := 209) rfl)) rfl
theorem in_2_210 : Cond.fieldLink RX2 62 RX2 "roomRegion" "[I" ∈ m_gW := m_t (m_tb2 (List.mem_of_getElem? (i := 210) rfl)) rfl
theorem in_2_211 : Cond.fieldLink RX11 291 RX2 "roomRegion" "[I" ∈ m_gW := m_t (m_tb2 (List.mem_of_getElem? (i := 211) rfl)) rfl
theorem in_2_212 : Cond.fieldLink RX2 65 RX2 "cellRoom" "[I" ∈ m_gW := m_t (m_tb2 (List.mem_of_getElem? (i := 212) rfl)) rfl
theorem in_2_213 : Cond.fieldLink RX2 68 RX2 "sideKind" "[I" ∈ m_gW := m_t (m_tb2 (List.mem_of_getElem? (i := 213) rfl)) rfl
theorem in_2_214 : Cond.fieldLink RX1 54 RX2 "sideKind" "[I" ∈ m_gW := m_t (m_tb2 (List.mem_of_getElem? (i := 214) rfl)) rfl
theorem in_2_215 : Cond.fieldLink RX11 276 RX2 "sideKind" "[I" ∈ m_gW := m_t (m_tb2 (List.mem_of_getElem? (i := 215) rfl)) rfl
theorem in_2_216 : Cond.fieldLink RX2 71 RX2 "sideValue" "[I" ∈ m_gW := m_t (m_tb2 (List.mem_of_getElem? (i := 216) rfl)) rfl
theorem in_2_217 : Cond.fieldLink RX1 57 RX2 "sideValue" "[I" ∈ m_gW := m_t (m_tb2 (List.mem_of_getElem? (i := 217) rfl)) rfl
theorem in_2_218 : Cond.fieldLink RX11 279 RX2 "sideValue" "[I" ∈ m_gW := m_t (m_tb2 (List.mem_of_getElem? (i := 218) rfl)) rfl
theorem in_3_22 : Cond.fieldLink RX10 10 RX10 "program" "LRegionRooms$Program;" ∈ m_gW := m_t (m_tb3 (List.mem_of_getElem? (i := 22) rfl)) rfl
theorem in_3_23 : Cond.fieldLink RX11 122 RX10 "program" "LRegionRooms$Program;" ∈ m_gW := m_t (m_tb3 (List.mem_of_getElem? (i := 23) rfl)) rfl
theorem in_3_24 : Cond.fieldLink RX10 19 RX10 "machine" "LRegionRooms$Machine;" ∈ m_gW := m_t (m_tb3 (List.mem_of_getElem? (i := 24) rfl)) rfl
theorem in_3_25 : Cond.fieldLink RX11 128 RX10 "machine" "LRegionRooms$Machine;" ∈ m_gW := m_t (m_tb3 (List.mem_of_getElem? (i := 25) rfl)) rfl
theorem in_3_26 : Cond.fieldLink RX10 26 RX10 "sentence" "LRegionRooms$Sentence;" ∈ m_gW := m_t (m_tb3 (List.mem_of_getElem? (i := 26) rfl)) rfl
theorem in_3_27 : Cond.fieldLink RX11 134 RX10 "sentence" "LRegionRooms$Sentence;" ∈ m_gW := m_t (m_tb3 (List.mem_of_getElem? (i := 27) rfl)) rfl
theorem in_3_43 : Cond.fieldLink RX1 9 RX1 "seen" "[Z" ∈ m_gW := m_t (m_tb3 (List.mem_of_getElem? (i := 43) rfl)) rfl
theorem in_3_44 : Cond.fieldLink RX11 301 RX1 "seen" "[Z" ∈ m_gW := m_t (m_tb3 (List.mem_of_getElem? (i := 44) rfl)) rfl
theorem in_3_45 : Cond.fieldLink RX1 15 RX1 "found" "[I" ∈ m_gW := m_t (m_tb3 (List.mem_of_getElem? (i := 45) rfl)) rfl
theorem in_3_46 : Cond.fieldLink RX1 19 RX1 "size" "I" ∈ m_gW := m_t (m_tb3 (List.mem_of_getElem? (i := 46) rfl)) rfl
theorem in_3_62 : Cond.fieldLink RX0 11 RX0 "kept" "[LRegionRooms$Machine;" ∈ m_gW := m_t (m_tb3 (List.mem_of_getElem? (i := 62) rfl)) rfl
theorem in_3_63 : Cond.fieldLink RX0 17 RX0 "first" "I" ∈ m_gW := m_t (m_tb3 (List.mem_of_getElem? (i := 63) rfl)) rfl
theorem in_3_64 : Cond.fieldLink RX0 21 RX0 "size" "I" ∈ m_gW := m_t (m_tb3 (List.mem_of_getElem? (i := 64) rfl)) rfl
theorem in_3_73 : Cond.fieldLink RX11 9 RX11 "tape" "[B" ∈ m_gW := m_t (m_tb3 (List.mem_of_getElem? (i := 73) rfl)) rfl
theorem in_3_74 : Cond.fieldLink RX11 13 RX11 "tapeLength" "I" ∈ m_gW := m_t (m_tb3 (List.mem_of_getElem? (i := 74) rfl)) rfl
theorem in_3_75 : Cond.fieldLink RX11 20 RX11 "programReader" "LRegionRooms$ProgramReader;" ∈ m_gW := m_t (m_tb3 (List.mem_of_getElem? (i := 75) rfl)) rfl
theorem in_3_76 : Cond.fieldLink RX11 27 RX11 "sentenceReader" "LRegionRooms$SentenceReader;" ∈ m_gW := m_t (m_tb3 (List.mem_of_getElem? (i := 76) rfl)) rfl
theorem in_3_77 : Cond.fieldLink RX11 34 RX11 "finder" "LRegionRooms$RegionFinder;" ∈ m_gW := m_t (m_tb3 (List.mem_of_getElem? (i := 77) rfl)) rfl
theorem in_3_78 : Cond.fieldLink RX11 38 RX11 "faultKind" "I" ∈ m_gW := m_t (m_tb3 (List.mem_of_getElem? (i := 78) rfl)) rfl
theorem in_3_79 : Cond.fieldLink RX11 44 RX11 "own" "LRegionRooms$Whole;" ∈ m_gW := m_t (m_tb3 (List.mem_of_getElem? (i := 79) rfl)) rfl
theorem in_3_80 : Cond.fieldLink RX11 51 RX11 "other" "LRegionRooms$Machine;" ∈ m_gW := m_t (m_tb3 (List.mem_of_getElem? (i := 80) rfl)) rfl
theorem in_3_81 : Cond.fieldLink RX11 58 RX11 "judge" "LRegionRooms$Judge;" ∈ m_gW := m_t (m_tb3 (List.mem_of_getElem? (i := 81) rfl)) rfl
theorem in_3_82 : Cond.fieldLink RX11 65 RX11 "history" "LRegionRooms$History;" ∈ m_gW := m_t (m_tb3 (List.mem_of_getElem? (i := 82) rfl)) rfl
theorem in_3_83 : Cond.fieldLink RX11 69 RX11 "images" "[LRegionRooms$Whole;" ∈ m_gW := m_t (m_tb3 (List.mem_of_getElem? (i := 83) rfl)) rfl
theorem in_3_84 : Cond.fieldLink RX11 73 RX11 "ranRows" "[I" ∈ m_gW := m_t (m_tb3 (List.mem_of_getElem? (i := 84) rfl)) rfl
theorem in_3_85 : Cond.fieldLink RX11 77 RX11 "ranOnce" "Z" ∈ m_gW := m_t (m_tb3 (List.mem_of_getElem? (i := 85) rfl)) rfl
theorem in_7_15 : Cond.fieldLink RX12 1 RX12 "thrown" "I" ∈ m_gW := m_t (m_tb7 (List.mem_of_getElem? (i := 15) rfl)) rfl
theorem in_7_16 : Cond.fieldLink RX12 7 RX12 "tape" "[I" ∈ m_gW := m_t (m_tb7 (List.mem_of_getElem? (i := 16) rfl)) rfl
theorem in_7_17 : Cond.fieldLink RX12 11 RX12 "taped" "I" ∈ m_gW := m_t (m_tb7 (List.mem_of_getElem? (i := 17) rfl)) rfl
theorem in_7_18 : Cond.fieldLink RX12 18 RX12 "size" "I" ∈ m_gW := m_t (m_tb7 (List.mem_of_getElem? (i := 18) rfl)) rfl
theorem in_7_19 : Cond.fieldLink RX12 27 RX12 "limit" "I" ∈ m_gW := m_t (m_tb7 (List.mem_of_getElem? (i := 19) rfl)) rfl
theorem in_7_20 : Cond.fieldLink RX12 21 RX12 "to" "I" ∈ m_gW := m_t (m_tb7 (List.mem_of_getElem? (i := 20) rfl)) rfl
theorem in_7_21 : Cond.fieldLink RX12 24 RX12 "from" "I" ∈ m_gW := m_t (m_tb7 (List.mem_of_getElem? (i := 21) rfl)) rfl
theorem in_7_22 : Cond.fieldLink RX12 30 RX12 "kind" "I" ∈ m_gW := m_t (m_tb7 (List.mem_of_getElem? (i := 22) rfl)) rfl
theorem in_7_23 : Cond.fieldLink RX12 47 RX12 "number" "I" ∈ m_gW := m_t (m_tb7 (List.mem_of_getElem? (i := 23) rfl)) rfl
theorem in_7_24 : Cond.fieldLink RX12 40 RX12 "sign" "I" ∈ m_gW := m_t (m_tb7 (List.mem_of_getElem? (i := 24) rfl)) rfl
theorem in_7_25 : Cond.fieldLink RX12 66 RX12 "fault" "I" ∈ m_gW := m_t (m_tb7 (List.mem_of_getElem? (i := 25) rfl)) rfl
theorem in_7_26 : Cond.fieldLink RX12 69 RX12 "place" "I" ∈ m_gW := m_t (m_tb7 (List.mem_of_getElem? (i := 26) rfl)) rfl
theorem in_7_27 : Cond.fieldLink RX12 43 RX12 "word" "J" ∈ m_gW := m_t (m_tb7 (List.mem_of_getElem? (i := 27) rfl)) rfl
theorem in_7_28 : Cond.fieldLink RX12 79 RX12 "told" "I" ∈ m_gW := m_t (m_tb7 (List.mem_of_getElem? (i := 28) rfl)) rfl
theorem in_7_29 : Cond.fieldLink RX12 98 RX12 "now" "[I" ∈ m_gW := m_t (m_tb7 (List.mem_of_getElem? (i := 29) rfl)) rfl
theorem in_7_30 : Cond.fieldLink RX12 101 RX12 "read" "[I" ∈ m_gW := m_t (m_tb7 (List.mem_of_getElem? (i := 30) rfl)) rfl
theorem in_7_31 : Cond.fieldLink RX12 104 RX12 "kept" "[I" ∈ m_gW := m_t (m_tb7 (List.mem_of_getElem? (i := 31) rfl)) rfl
theorem in_7_32 : Cond.fieldLink RX12 107 RX12 "snaps" "[I" ∈ m_gW := m_t (m_tb7 (List.mem_of_getElem? (i := 32) rfl)) rfl
theorem in_7_33 : Cond.fieldLink RX12 110 RX12 "aside" "[I" ∈ m_gW := m_t (m_tb7 (List.mem_of_getElem? (i := 33) rfl)) rfl
theorem in_7_34 : Cond.fieldLink RX12 113 RX12 "name" "[J" ∈ m_gW := m_t (m_tb7 (List.mem_of_getElem? (i := 34) rfl)) rfl
theorem in_7_35 : Cond.fieldLink RX12 117 RX12 "readName" "[J" ∈ m_gW := m_t (m_tb7 (List.mem_of_getElem? (i := 35) rfl)) rfl
theorem in_7_36 : Cond.fieldLink RX12 120 RX12 "keptName" "[J" ∈ m_gW := m_t (m_tb7 (List.mem_of_getElem? (i := 36) rfl)) rfl
theorem in_7_37 : Cond.fieldLink RX12 123 RX12 "varName" "[J" ∈ m_gW := m_t (m_tb7 (List.mem_of_getElem? (i := 37) rfl)) rfl
theorem in_7_38 : Cond.fieldLink RX12 126 RX12 "isKept" "[Z" ∈ m_gW := m_t (m_tb7 (List.mem_of_getElem? (i := 38) rfl)) rfl
theorem in_7_39 : Cond.fieldLink RX12 245 RX12 "snapMany" "I" ∈ m_gW := m_t (m_tb7 (List.mem_of_getElem? (i := 39) rfl)) rfl
theorem in_7_40 : Cond.fieldLink RX12 130 RX12 "joined" "[I" ∈ m_gW := m_t (m_tb7 (List.mem_of_getElem? (i := 40) rfl)) rfl
theorem in_7_41 : Cond.fieldLink RX12 133 RX12 "pointed" "[I" ∈ m_gW := m_t (m_tb7 (List.mem_of_getElem? (i := 41) rfl)) rfl
theorem in_7_42 : Cond.fieldLink RX12 136 RX12 "numberOf" "[I" ∈ m_gW := m_t (m_tb7 (List.mem_of_getElem? (i := 42) rfl)) rfl
theorem in_7_43 : Cond.fieldLink RX12 139 RX12 "pointOf" "[I" ∈ m_gW := m_t (m_tb7 (List.mem_of_getElem? (i := 43) rfl)) rfl
theorem in_7_44 : Cond.fieldLink RX12 142 RX12 "reachOf" "[I" ∈ m_gW := m_t (m_tb7 (List.mem_of_getElem? (i := 44) rfl)) rfl
theorem in_7_45 : Cond.fieldLink RX12 145 RX12 "sideOf" "[I" ∈ m_gW := m_t (m_tb7 (List.mem_of_getElem? (i := 45) rfl)) rfl
theorem in_7_46 : Cond.fieldLink RX12 148 RX12 "outer" "[I" ∈ m_gW := m_t (m_tb7 (List.mem_of_getElem? (i := 46) rfl)) rfl
theorem in_7_47 : Cond.fieldLink RX12 151 RX12 "owned" "[I" ∈ m_gW := m_t (m_tb7 (List.mem_of_getElem? (i := 47) rfl)) rfl
theorem in_7_48 : Cond.fieldLink RX12 154 RX12 "spanFrom" "[I" ∈ m_gW := m_t (m_tb7 (List.mem_of_getElem? (i := 48) rfl)) rfl
theorem in_7_49 : Cond.fieldLink RX12 157 RX12 "spanTo" "[I" ∈ m_gW := m_t (m_tb7 (List.mem_of_getElem? (i := 49) rfl)) rfl
theorem in_7_50 : Cond.fieldLink RX12 160 RX12 "pairFuns" "[I" ∈ m_gW := m_t (m_tb7 (List.mem_of_getElem? (i := 50) rfl)) rfl
theorem in_7_51 : Cond.fieldLink RX12 259 RX12 "made" "I" ∈ m_gW := m_t (m_tb7 (List.mem_of_getElem? (i := 51) rfl)) rfl
theorem in_7_52 : Cond.fieldLink RX12 163 RX12 "argKind" "[I" ∈ m_gW := m_t (m_tb7 (List.mem_of_getElem? (i := 52) rfl)) rfl
theorem in_7_53 : Cond.fieldLink RX12 166 RX12 "argValue" "[I" ∈ m_gW := m_t (m_tb7 (List.mem_of_getElem? (i := 53) rfl)) rfl
theorem in_7_54 : Cond.fieldLink RX12 169 RX12 "comeTo" "[Z" ∈ m_gW := m_t (m_tb7 (List.mem_of_getElem? (i := 54) rfl)) rfl
theorem in_7_55 : Cond.fieldLink RX12 172 RX12 "toLook" "[I" ∈ m_gW := m_t (m_tb7 (List.mem_of_getElem? (i := 55) rfl)) rfl
theorem in_7_56 : Cond.fieldLink RX12 417 RX12 "looks" "I" ∈ m_gW := m_t (m_tb7 (List.mem_of_getElem? (i := 56) rfl)) rfl
theorem in_7_57 : Cond.fieldLink RX12 175 RX12 "ran" "[I" ∈ m_gW := m_t (m_tb7 (List.mem_of_getElem? (i := 57) rfl)) rfl
theorem in_7_58 : Cond.fieldLink RX12 178 RX12 "drawnNumbers" "[I" ∈ m_gW := m_t (m_tb7 (List.mem_of_getElem? (i := 58) rfl)) rfl
theorem in_7_59 : Cond.fieldLink RX12 429 RX12 "hasRun" "Z" ∈ m_gW := m_t (m_tb7 (List.mem_of_getElem? (i := 59) rfl)) rfl
theorem in_7_60 : Cond.fieldLink RX12 433 RX12 "seed" "I" ∈ m_gW := m_t (m_tb7 (List.mem_of_getElem? (i := 60) rfl)) rfl
theorem in_7_61 : Cond.fieldLink RX12 181 RX12 "node" "[I" ∈ m_gW := m_t (m_tb7 (List.mem_of_getElem? (i := 61) rfl)) rfl
theorem in_7_62 : Cond.fieldLink RX12 443 RX12 "nodes" "I" ∈ m_gW := m_t (m_tb7 (List.mem_of_getElem? (i := 62) rfl)) rfl
theorem in_7_63 : Cond.fieldLink RX12 459 RX12 "onesMany" "I" ∈ m_gW := m_t (m_tb7 (List.mem_of_getElem? (i := 63) rfl)) rfl
theorem in_7_64 : Cond.fieldLink RX12 462 RX12 "within" "I" ∈ m_gW := m_t (m_tb7 (List.mem_of_getElem? (i := 64) rfl)) rfl
theorem in_7_65 : Cond.fieldLink RX12 449 RX12 "top" "I" ∈ m_gW := m_t (m_tb7 (List.mem_of_getElem? (i := 65) rfl)) rfl
theorem in_9_146 : Cond.fieldLink RJ0 9 RJ0 "value" "[B" ∈ m_gW := m_t (m_tb9 (List.mem_of_getElem? (i := 146) rfl)) rfl
theorem in_9_147 : Cond.fieldLink RJ0 15 RJ0 "coder" "B" ∈ m_gW := m_t (m_tb9 (List.mem_of_getElem? (i := 147) rfl)) rfl
theorem in_1_28 : Cond.methodLink RL 25 yX11_init ∈ m_gW := m_t (m_tb1 (List.mem_of_getElem? (i := 28) rfl)) rfl
theorem in_1_31 : Cond.methodLink RX11 3 objectInit ∈ m_gW := m_t (m_tb1 (List.mem_of_getElem? (i := 31) rfl)) rfl
theorem in_1_39 : Cond.methodLink RX4 3 objectInit ∈ m_gW := m_t (m_tb1 (List.mem_of_getElem? (i := 39) rfl)) rfl
theorem in_1_45 : Cond.methodLink RX3 3 objectInit ∈ m_gW := m_t (m_tb1 (List.mem_of_getElem? (i := 45) rfl)) rfl
theorem in_1_51 : Cond.methodLink RX6 3 objectInit ∈ m_gW := m_t (m_tb1 (List.mem_of_getElem? (i := 51) rfl)) rfl
theorem in_1_188 : Cond.methodLink RX4 20 yX9_init ∈ m_gW := m_t (m_tb1 (List.mem_of_getElem? (i := 188) rfl)) rfl
theorem in_1_191 : Cond.methodLink RX9 3 objectInit ∈ m_gW := m_t (m_tb1 (List.mem_of_getElem? (i := 191) rfl)) rfl
theorem in_1_193 : Cond.methodLink RX9 55 yJ9_max_7cf53 ∈ m_gW := m_t (m_tb1 (List.mem_of_getElem? (i := 193) rfl)) rfl
theorem in_1_197 : Cond.methodLink RX9 76 yJ0_length_8abf5 ∈ m_gW := m_t (m_tb1 (List.mem_of_getElem? (i := 197) rfl)) rfl
theorem in_1_201 : Cond.methodLink RJ0 335 yJ0_coder_7d493 ∈ m_gW := m_t (m_tb1 (List.mem_of_getElem? (i := 201) rfl)) rfl
theorem in_1_207 : Cond.methodLink RX9 81 yJ0_charAt_5068e ∈ m_gW := m_t (m_tb1 (List.mem_of_getElem? (i := 207) rfl)) rfl
theorem in_1_211 : Cond.methodLink RJ0 492 yJ0_isLatin1_aae02 ∈ m_gW := m_t (m_tb1 (List.mem_of_getElem? (i := 211) rfl)) rfl
theorem in_1_215 : Cond.methodLink RJ0 495 yJ1_charAt_3b067 ∈ m_gW := m_t (m_tb1 (List.mem_of_getElem? (i := 215) rfl)) rfl
theorem in_1_218 : Cond.methodLink RJ1 9 yJ0_checkIndex_df160 ∈ m_gW := m_t (m_tb1 (List.mem_of_getElem? (i := 218) rfl)) rfl
theorem in_1_223 : Cond.methodLink RJ0 1059 yJ3_checkIndex_8e157 ∈ m_gW := m_t (m_tb1 (List.mem_of_getElem? (i := 223) rfl)) rfl
theorem in_1_226 : Cond.methodLink RJ0 498 yJ2_charAt_3b067 ∈ m_gW := m_t (m_tb1 (List.mem_of_getElem? (i := 226) rfl)) rfl
theorem in_1_229 : Cond.methodLink RJ2 67 yJ2_checkIndex_2214a ∈ m_gW := m_t (m_tb1 (List.mem_of_getElem? (i := 229) rfl)) rfl
theorem in_1_232 : Cond.methodLink RJ2 48 yJ2_length_9d52b ∈ m_gW := m_t (m_tb1 (List.mem_of_getElem? (i := 232) rfl)) rfl
theorem in_1_235 : Cond.methodLink RJ2 414 yJ0_checkIndex_df160 ∈ m_gW := m_t (m_tb1 (List.mem_of_getElem? (i := 235) rfl)) rfl
theorem in_1_236 : Cond.methodLink RJ2 71 yJ2_getChar_3b067 ∈ m_gW := m_t (m_tb1 (List.mem_of_getElem? (i := 236) rfl)) rfl
theorem in_2_5 : Cond.methodLink RX9 85 yX9_withLetter ∈ m_gW := m_t (m_tb2 (List.mem_of_getElem? (i := 5) rfl)) rfl
theorem in_2_92 : Cond.methodLink RX8 3 objectInit ∈ m_gW := m_t (m_tb2 (List.mem_of_getElem? (i := 92) rfl)) rfl
theorem in_2_98 : Cond.methodLink RX7 3 objectInit ∈ m_gW := m_t (m_tb2 (List.mem_of_getElem? (i := 98) rfl)) rfl
theorem in_2_127 : Cond.methodLink RX8 20 yX9_init ∈ m_gW := m_t (m_tb2 (List.mem_of_getElem? (i := 127) rfl)) rfl
theorem in_2_142 : Cond.methodLink RX5 5 objectInit ∈ m_gW := m_t (m_tb2 (List.mem_of_getElem? (i := 142) rfl)) rfl
theorem in_2_164 : Cond.methodLink RX10 1 objectInit ∈ m_gW := m_t (m_tb2 (List.mem_of_getElem? (i := 164) rfl)) rfl
theorem in_2_169 : Cond.methodLink RX10 18 yX2_init ∈ m_gW := m_t (m_tb2 (List.mem_of_getElem? (i := 169) rfl)) rfl
theorem in_2_172 : Cond.methodLink RX2 3 objectInit ∈ m_gW := m_t (m_tb2 (List.mem_of_getElem? (i := 172) rfl)) rfl
theorem in_2_173 : Cond.methodLink RX2 74 yJ7_fill_53178 ∈ m_gW := m_t (m_tb2 (List.mem_of_getElem? (i := 173) rfl)) rfl
theorem in_3_36 : Cond.methodLink RX11 50 yX2_init ∈ m_gW := m_t (m_tb3 (List.mem_of_getElem? (i := 36) rfl)) rfl
theorem in_3_42 : Cond.methodLink RX1 3 objectInit ∈ m_gW := m_t (m_tb3 (List.mem_of_getElem? (i := 42) rfl)) rfl
theorem in_3_59 : Cond.methodLink RX0 3 objectInit ∈ m_gW := m_t (m_tb3 (List.mem_of_getElem? (i := 59) rfl)) rfl
theorem in_3_113 : Cond.methodLink RL 29 yX11_feed ∈ m_gW := m_t (m_tb3 (List.mem_of_getElem? (i := 113) rfl)) rfl
theorem in_3_117 : Cond.methodLink RX11 81 yX11_putBytes ∈ m_gW := m_t (m_tb3 (List.mem_of_getElem? (i := 117) rfl)) rfl
theorem in_3_121 : Cond.methodLink RL 34 yX11_end ∈ m_gW := m_t (m_tb3 (List.mem_of_getElem? (i := 121) rfl)) rfl
theorem in_3_125 : Cond.methodLink RL 39 yX11_program ∈ m_gW := m_t (m_tb3 (List.mem_of_getElem? (i := 125) rfl)) rfl
theorem in_3_129 : Cond.methodLink RX11 85 yX11_takeTape ∈ m_gW := m_t (m_tb3 (List.mem_of_getElem? (i := 129) rfl)) rfl
theorem in_3_133 : Cond.methodLink RX11 89 yX4_readsAll ∈ m_gW := m_t (m_tb3 (List.mem_of_getElem? (i := 133) rfl)) rfl
theorem in_3_137 : Cond.methodLink RX4 35 yX3_clear ∈ m_gW := m_t (m_tb3 (List.mem_of_getElem? (i := 137) rfl)) rfl
theorem in_3_141 : Cond.methodLink RX4 38 yX9_open ∈ m_gW := m_t (m_tb3 (List.mem_of_getElem? (i := 141) rfl)) rfl
theorem in_3_145 : Cond.methodLink RX9 89 yJ9_min_7cf53 ∈ m_gW := m_t (m_tb3 (List.mem_of_getElem? (i := 145) rfl)) rfl
theorem in_3_148 : Cond.methodLink RX9 92 yX9_readPiece ∈ m_gW := m_t (m_tb3 (List.mem_of_getElem? (i := 148) rfl)) rfl
theorem in_3_152 : Cond.methodLink RX9 103 yX9_isLetter ∈ m_gW := m_t (m_tb3 (List.mem_of_getElem? (i := 152) rfl)) rfl
theorem in_3_155 : Cond.methodLink RX9 107 yX9_isDigit ∈ m_gW := m_t (m_tb3 (List.mem_of_getElem? (i := 155) rfl)) rfl
theorem in_3_158 : Cond.methodLink RX9 110 yX9_readLettersAndDigits ∈ m_gW := m_t (m_tb3 (List.mem_of_getElem? (i := 158) rfl)) rfl
theorem in_3_162 : Cond.methodLink RX9 113 yX9_keywordOf ∈ m_gW := m_t (m_tb3 (List.mem_of_getElem? (i := 162) rfl)) rfl
theorem in_3_166 : Cond.methodLink RX9 96 yX9_put ∈ m_gW := m_t (m_tb3 (List.mem_of_getElem? (i := 166) rfl)) rfl
theorem in_3_170 : Cond.methodLink RX9 100 yX9_advance ∈ m_gW := m_t (m_tb3 (List.mem_of_getElem? (i := 170) rfl)) rfl
theorem in_3_174 : Cond.methodLink RX4 48 yX4_readsFun ∈ m_gW := m_t (m_tb3 (List.mem_of_getElem? (i := 174) rfl)) rfl
theorem in_3_178 : Cond.methodLink RX4 59 yX4_latestFunIsBare ∈ m_gW := m_t (m_tb3 (List.mem_of_getElem? (i := 178) rfl)) rfl
theorem in_3_182 : Cond.methodLink RX4 62 yX9_failsBy ∈ m_gW := m_t (m_tb3 (List.mem_of_getElem? (i := 182) rfl)) rfl
theorem in_3_186 : Cond.methodLink RX4 72 yX9_advance ∈ m_gW := m_t (m_tb3 (List.mem_of_getElem? (i := 186) rfl)) rfl
theorem in_3_187 : Cond.methodLink RX4 79 yX3_funOf ∈ m_gW := m_t (m_tb3 (List.mem_of_getElem? (i := 187) rfl)) rfl
theorem in_3_191 : Cond.methodLink RX4 83 yX3_openFun ∈ m_gW := m_t (m_tb3 (List.mem_of_getElem? (i := 191) rfl)) rfl
theorem in_3_195 : Cond.methodLink RX4 87 yX4_readsParameters ∈ m_gW := m_t (m_tb3 (List.mem_of_getElem? (i := 195) rfl)) rfl
theorem in_3_199 : Cond.methodLink RX4 90 yX4_varOf ∈ m_gW := m_t (m_tb3 (List.mem_of_getElem? (i := 199) rfl)) rfl
theorem in_3_203 : Cond.methodLink RX4 93 yX4_addVar ∈ m_gW := m_t (m_tb3 (List.mem_of_getElem? (i := 203) rfl)) rfl
theorem in_3_207 : Cond.methodLink RX4 52 yX4_readsIs ∈ m_gW := m_t (m_tb3 (List.mem_of_getElem? (i := 207) rfl)) rfl
theorem in_3_211 : Cond.methodLink RX4 102 yX9_takesKeyword ∈ m_gW := m_t (m_tb3 (List.mem_of_getElem? (i := 211) rfl)) rfl
theorem in_3_215 : Cond.methodLink RX9 119 yX9_failsBy ∈ m_gW := m_t (m_tb3 (List.mem_of_getElem? (i := 215) rfl)) rfl
theorem in_3_216 : Cond.methodLink RX4 105 yX4_readsExpr ∈ m_gW := m_t (m_tb3 (List.mem_of_getElem? (i := 216) rfl)) rfl
theorem in_3_220 : Cond.methodLink RX4 120 yX4_takesVars ∈ m_gW := m_t (m_tb3 (List.mem_of_getElem? (i := 220) rfl)) rfl
theorem in_3_224 : Cond.methodLink RX4 124 yX4_takesFun ∈ m_gW := m_t (m_tb3 (List.mem_of_getElem? (i := 224) rfl)) rfl
theorem in_3_228 : Cond.methodLink RX4 127 yX3_argumentCount ∈ m_gW := m_t (m_tb3 (List.mem_of_getElem? (i := 228) rfl)) rfl
theorem in_3_232 : Cond.methodLink RX4 131 yX4_readsWhen ∈ m_gW := m_t (m_tb3 (List.mem_of_getElem? (i := 232) rfl)) rfl
theorem in_3_236 : Cond.methodLink RX4 108 yX3_closeLine ∈ m_gW := m_t (m_tb3 (List.mem_of_getElem? (i := 236) rfl)) rfl
theorem in_4_0 : Cond.methodLink RX4 55 yX9_takesSign ∈ m_gW := m_t (m_tb4 (List.mem_of_getElem? (i := 0) rfl)) rfl
theorem in_4_4 : Cond.methodLink RX11 107 yX5_findAll ∈ m_gW := m_t (m_tb4 (List.mem_of_getElem? (i := 4) rfl)) rfl
theorem in_4_8 : Cond.methodLink RX5 28 yX5_clear ∈ m_gW := m_t (m_tb4 (List.mem_of_getElem? (i := 8) rfl)) rfl
theorem in_4_12 : Cond.methodLink RX5 53 yJ7_fill_53178 ∈ m_gW := m_t (m_tb4 (List.mem_of_getElem? (i := 12) rfl)) rfl
theorem in_4_13 : Cond.methodLink RX5 42 yX5_joinLine ∈ m_gW := m_t (m_tb4 (List.mem_of_getElem? (i := 13) rfl)) rfl
theorem in_4_17 : Cond.methodLink RX5 66 yX3_varOfLine ∈ m_gW := m_t (m_tb4 (List.mem_of_getElem? (i := 17) rfl)) rfl
theorem in_4_21 : Cond.methodLink RX5 63 yX5_nodeOf ∈ m_gW := m_t (m_tb4 (List.mem_of_getElem? (i := 21) rfl)) rfl
theorem in_4_24 : Cond.methodLink RX5 72 yX5_operandNode ∈ m_gW := m_t (m_tb4 (List.mem_of_getElem? (i := 24) rfl)) rfl
theorem in_4_27 : Cond.methodLink RX5 59 yX3_operandAt ∈ m_gW := m_t (m_tb4 (List.mem_of_getElem? (i := 27) rfl)) rfl
theorem in_4_31 : Cond.methodLink RX5 76 yX5_join ∈ m_gW := m_t (m_tb4 (List.mem_of_getElem? (i := 31) rfl)) rfl
theorem in_4_35 : Cond.methodLink RX5 106 yX5_rootOf ∈ m_gW := m_t (m_tb4 (List.mem_of_getElem? (i := 35) rfl)) rfl
theorem in_4_39 : Cond.methodLink RX5 80 yX5_leftOf ∈ m_gW := m_t (m_tb4 (List.mem_of_getElem? (i := 39) rfl)) rfl
theorem in_4_43 : Cond.methodLink RX5 103 yX5_rootWithRegion ∈ m_gW := m_t (m_tb4 (List.mem_of_getElem? (i := 43) rfl)) rfl
theorem in_4_47 : Cond.methodLink RX5 84 yX5_rightOf ∈ m_gW := m_t (m_tb4 (List.mem_of_getElem? (i := 47) rfl)) rfl
theorem in_4_51 : Cond.methodLink RX5 87 yX5_joinCall ∈ m_gW := m_t (m_tb4 (List.mem_of_getElem? (i := 51) rfl)) rfl
theorem in_4_55 : Cond.methodLink RX5 100 yX3_resultOf ∈ m_gW := m_t (m_tb4 (List.mem_of_getElem? (i := 55) rfl)) rfl
theorem in_4_59 : Cond.methodLink RX3 62 yX3_varCount ∈ m_gW := m_t (m_tb4 (List.mem_of_getElem? (i := 59) rfl)) rfl
theorem in_4_63 : Cond.methodLink RX5 91 yX3_elseSlot ∈ m_gW := m_t (m_tb4 (List.mem_of_getElem? (i := 63) rfl)) rfl
theorem in_4_67 : Cond.methodLink RX3 66 yX3_argumentCount ∈ m_gW := m_t (m_tb4 (List.mem_of_getElem? (i := 67) rfl)) rfl
theorem in_4_68 : Cond.methodLink RX5 46 yX5_numberAll ∈ m_gW := m_t (m_tb4 (List.mem_of_getElem? (i := 68) rfl)) rfl
theorem in_4_72 : Cond.methodLink RX5 118 yX3_varCount ∈ m_gW := m_t (m_tb4 (List.mem_of_getElem? (i := 72) rfl)) rfl
theorem in_4_73 : Cond.methodLink RX5 121 yX5_numberFrom ∈ m_gW := m_t (m_tb4 (List.mem_of_getElem? (i := 73) rfl)) rfl
theorem in_4_77 : Cond.methodLink RX5 50 yX5_tellAll ∈ m_gW := m_t (m_tb4 (List.mem_of_getElem? (i := 77) rfl)) rfl
theorem in_4_81 : Cond.methodLink RX11 117 yX6_derive ∈ m_gW := m_t (m_tb4 (List.mem_of_getElem? (i := 81) rfl)) rfl
theorem in_4_85 : Cond.methodLink RX6 68 yX6_closeReach ∈ m_gW := m_t (m_tb4 (List.mem_of_getElem? (i := 85) rfl)) rfl
theorem in_4_89 : Cond.methodLink RX6 101 yX6_reachOf ∈ m_gW := m_t (m_tb4 (List.mem_of_getElem? (i := 89) rfl)) rfl
theorem in_4_93 : Cond.methodLink RX6 64 yX6_has ∈ m_gW := m_t (m_tb4 (List.mem_of_getElem? (i := 93) rfl)) rfl
theorem in_4_97 : Cond.methodLink RX6 71 yJ7_fill_53178 ∈ m_gW := m_t (m_tb4 (List.mem_of_getElem? (i := 97) rfl)) rfl
theorem in_4_98 : Cond.methodLink RX6 82 yX6_tellOwner ∈ m_gW := m_t (m_tb4 (List.mem_of_getElem? (i := 98) rfl)) rfl
theorem in_4_102 : Cond.methodLink RX6 105 yX3_varCount ∈ m_gW := m_t (m_tb4 (List.mem_of_getElem? (i := 102) rfl)) rfl
theorem in_4_103 : Cond.methodLink RX6 108 yX6_pointedBy ∈ m_gW := m_t (m_tb4 (List.mem_of_getElem? (i := 103) rfl)) rfl
theorem in_4_107 : Cond.methodLink RX6 115 yX3_resultOf ∈ m_gW := m_t (m_tb4 (List.mem_of_getElem? (i := 107) rfl)) rfl
theorem in_4_108 : Cond.methodLink RX6 86 yX6_tellFilled ∈ m_gW := m_t (m_tb4 (List.mem_of_getElem? (i := 108) rfl)) rfl
theorem in_4_112 : Cond.methodLink RX6 124 yX3_varOfLine ∈ m_gW := m_t (m_tb4 (List.mem_of_getElem? (i := 112) rfl)) rfl
theorem in_4_113 : Cond.methodLink RX6 89 yX6_isOwned ∈ m_gW := m_t (m_tb4 (List.mem_of_getElem? (i := 113) rfl)) rfl
theorem in_4_117 : Cond.methodLink RX6 93 yX6_tellSpan ∈ m_gW := m_t (m_tb4 (List.mem_of_getElem? (i := 117) rfl)) rfl
theorem in_4_121 : Cond.methodLink RX6 130 yX6_reachOfLine ∈ m_gW := m_t (m_tb4 (List.mem_of_getElem? (i := 121) rfl)) rfl
theorem in_4_125 : Cond.methodLink RX6 134 yX6_reachOfVar ∈ m_gW := m_t (m_tb4 (List.mem_of_getElem? (i := 125) rfl)) rfl
theorem in_4_129 : Cond.methodLink RX6 137 yX3_operandCount ∈ m_gW := m_t (m_tb4 (List.mem_of_getElem? (i := 129) rfl)) rfl
theorem in_4_133 : Cond.methodLink RX6 140 yX3_operandAt ∈ m_gW := m_t (m_tb4 (List.mem_of_getElem? (i := 133) rfl)) rfl
theorem in_4_134 : Cond.methodLink RX6 97 yX6_tellFinite ∈ m_gW := m_t (m_tb4 (List.mem_of_getElem? (i := 134) rfl)) rfl
theorem in_4_138 : Cond.methodLink RX6 143 yJ6_bitCount_0f7a4 ∈ m_gW := m_t (m_tb4 (List.mem_of_getElem? (i := 138) rfl)) rfl
theorem in_4_144 : Cond.methodLink RX11 125 yX3_copyFrom ∈ m_gW := m_t (m_tb4 (List.mem_of_getElem? (i := 144) rfl)) rfl
theorem in_4_148 : Cond.methodLink RX3 48 arraycopyName ∈ m_gW := m_t (m_tb4 (List.mem_of_getElem? (i := 148) rfl)) rfl
theorem in_4_151 : Cond.methodLink RX3 54 yX6_copyFrom ∈ m_gW := m_t (m_tb4 (List.mem_of_getElem? (i := 151) rfl)) rfl
theorem in_4_155 : Cond.methodLink RX6 58 arraycopyName ∈ m_gW := m_t (m_tb4 (List.mem_of_getElem? (i := 155) rfl)) rfl
theorem in_4_156 : Cond.methodLink RX11 131 yX2_clear ∈ m_gW := m_t (m_tb4 (List.mem_of_getElem? (i := 156) rfl)) rfl
theorem in_4_160 : Cond.methodLink RX11 138 yX7_clear ∈ m_gW := m_t (m_tb4 (List.mem_of_getElem? (i := 160) rfl)) rfl
theorem in_4_164 : Cond.methodLink RX11 141 yX0_clear ∈ m_gW := m_t (m_tb4 (List.mem_of_getElem? (i := 164) rfl)) rfl
theorem in_4_168 : Cond.methodLink RL 43 yX11_fault ∈ m_gW := m_t (m_tb4 (List.mem_of_getElem? (i := 168) rfl)) rfl
theorem in_4_172 : Cond.methodLink RL 56 yX11_points ∈ m_gW := m_t (m_tb4 (List.mem_of_getElem? (i := 172) rfl)) rfl
theorem in_4_176 : Cond.methodLink RX11 174 yX3_hasVar ∈ m_gW := m_t (m_tb4 (List.mem_of_getElem? (i := 176) rfl)) rfl
theorem in_4_180 : Cond.methodLink RX3 58 yX3_hasFun ∈ m_gW := m_t (m_tb4 (List.mem_of_getElem? (i := 180) rfl)) rfl
theorem in_4_184 : Cond.methodLink RX11 178 yX6_pointedBy ∈ m_gW := m_t (m_tb4 (List.mem_of_getElem? (i := 184) rfl)) rfl
theorem in_4_185 : Cond.methodLink RL 60 yX11_region ∈ m_gW := m_t (m_tb4 (List.mem_of_getElem? (i := 185) rfl)) rfl
theorem in_4_189 : Cond.methodLink RX11 182 yX6_has ∈ m_gW := m_t (m_tb4 (List.mem_of_getElem? (i := 189) rfl)) rfl
theorem in_4_190 : Cond.methodLink RX11 197 yX6_isFinite ∈ m_gW := m_t (m_tb4 (List.mem_of_getElem? (i := 190) rfl)) rfl
theorem in_4_194 : Cond.methodLink RX11 200 yX2_roomsOf ∈ m_gW := m_t (m_tb4 (List.mem_of_getElem? (i := 194) rfl)) rfl
theorem in_4_198 : Cond.methodLink RX11 203 yX2_cellsOf ∈ m_gW := m_t (m_tb4 (List.mem_of_getElem? (i := 198) rfl)) rfl
theorem in_4_202 : Cond.methodLink RX2 115 yX2_hasCell ∈ m_gW := m_t (m_tb4 (List.mem_of_getElem? (i := 202) rfl)) rfl
theorem in_4_206 : Cond.methodLink RX2 122 yX2_regionOfCell ∈ m_gW := m_t (m_tb4 (List.mem_of_getElem? (i := 206) rfl)) rfl
theorem in_4_210 : Cond.methodLink RX2 119 yX2_hasRoom ∈ m_gW := m_t (m_tb4 (List.mem_of_getElem? (i := 210) rfl)) rfl
theorem in_4_214 : Cond.methodLink RL 64 yX11_span ∈ m_gW := m_t (m_tb4 (List.mem_of_getElem? (i := 214) rfl)) rfl
theorem in_4_218 : Cond.methodLink RX11 148 yX3_hasFun ∈ m_gW := m_t (m_tb4 (List.mem_of_getElem? (i := 218) rfl)) rfl
theorem in_4_219 : Cond.methodLink RX11 206 yX6_isOwned ∈ m_gW := m_t (m_tb4 (List.mem_of_getElem? (i := 219) rfl)) rfl
theorem in_4_220 : Cond.methodLink RL 69 yX11_load ∈ m_gW := m_t (m_tb4 (List.mem_of_getElem? (i := 220) rfl)) rfl
theorem in_4_224 : Cond.methodLink RX11 215 yX11_fitsMain ∈ m_gW := m_t (m_tb4 (List.mem_of_getElem? (i := 224) rfl)) rfl
theorem in_4_228 : Cond.methodLink RX11 218 yX0_keep ∈ m_gW := m_t (m_tb4 (List.mem_of_getElem? (i := 228) rfl)) rfl
theorem in_4_232 : Cond.methodLink RX0 24 yX2_init ∈ m_gW := m_t (m_tb4 (List.mem_of_getElem? (i := 232) rfl)) rfl
theorem in_4_233 : Cond.methodLink RX0 25 yX2_copyFrom ∈ m_gW := m_t (m_tb4 (List.mem_of_getElem? (i := 233) rfl)) rfl
theorem in_4_237 : Cond.methodLink RX2 80 arraycopyName ∈ m_gW := m_t (m_tb4 (List.mem_of_getElem? (i := 237) rfl)) rfl
theorem in_4_238 : Cond.methodLink RX11 222 yX11_beginWithTape ∈ m_gW := m_t (m_tb4 (List.mem_of_getElem? (i := 238) rfl)) rfl
theorem in_5_2 : Cond.methodLink RX11 356 yX2_begin ∈ m_gW := m_t (m_tb5 (List.mem_of_getElem? (i := 2) rfl)) rfl
theorem in_5_6 : Cond.methodLink RX2 86 yX2_clear ∈ m_gW := m_t (m_tb5 (List.mem_of_getElem? (i := 6) rfl)) rfl
theorem in_5_7 : Cond.methodLink RX2 103 yX2_makeRooms ∈ m_gW := m_t (m_tb5 (List.mem_of_getElem? (i := 7) rfl)) rfl
theorem in_5_11 : Cond.methodLink RX2 107 yX2_openFrame ∈ m_gW := m_t (m_tb5 (List.mem_of_getElem? (i := 11) rfl)) rfl
theorem in_5_15 : Cond.methodLink RX2 173 yX2_setVar ∈ m_gW := m_t (m_tb5 (List.mem_of_getElem? (i := 15) rfl)) rfl
theorem in_5_19 : Cond.methodLink RX11 359 yX3_parametersOfMain ∈ m_gW := m_t (m_tb5 (List.mem_of_getElem? (i := 19) rfl)) rfl
theorem in_5_23 : Cond.methodLink RX11 362 yX2_setVar ∈ m_gW := m_t (m_tb5 (List.mem_of_getElem? (i := 23) rfl)) rfl
theorem in_5_24 : Cond.methodLink RL 74 yX11_steps ∈ m_gW := m_t (m_tb5 (List.mem_of_getElem? (i := 24) rfl)) rfl
theorem in_5_28 : Cond.methodLink RX11 228 yX2_makeStep ∈ m_gW := m_t (m_tb5 (List.mem_of_getElem? (i := 28) rfl)) rfl
theorem in_5_32 : Cond.methodLink RX2 132 yX2_stopReason ∈ m_gW := m_t (m_tb5 (List.mem_of_getElem? (i := 32) rfl)) rfl
theorem in_5_36 : Cond.methodLink RX2 154 yX2_kindAt ∈ m_gW := m_t (m_tb5 (List.mem_of_getElem? (i := 36) rfl)) rfl
theorem in_5_40 : Cond.methodLink RX2 169 yX3_operandAt ∈ m_gW := m_t (m_tb5 (List.mem_of_getElem? (i := 40) rfl)) rfl
theorem in_5_41 : Cond.methodLink RX2 157 yX2_hasPairForNumber ∈ m_gW := m_t (m_tb5 (List.mem_of_getElem? (i := 41) rfl)) rfl
theorem in_5_45 : Cond.methodLink RX2 163 yX3_conditionSlot ∈ m_gW := m_t (m_tb5 (List.mem_of_getElem? (i := 45) rfl)) rfl
theorem in_5_49 : Cond.methodLink RX2 136 yX2_callsNow ∈ m_gW := m_t (m_tb5 (List.mem_of_getElem? (i := 49) rfl)) rfl
theorem in_5_53 : Cond.methodLink RX2 166 yX2_valueAt ∈ m_gW := m_t (m_tb5 (List.mem_of_getElem? (i := 53) rfl)) rfl
theorem in_5_57 : Cond.methodLink RX2 160 yX3_leavesBy ∈ m_gW := m_t (m_tb5 (List.mem_of_getElem? (i := 57) rfl)) rfl
theorem in_5_61 : Cond.methodLink RX2 140 yX2_callBy ∈ m_gW := m_t (m_tb5 (List.mem_of_getElem? (i := 61) rfl)) rfl
theorem in_5_65 : Cond.methodLink RX2 180 yX3_argumentCount ∈ m_gW := m_t (m_tb5 (List.mem_of_getElem? (i := 65) rfl)) rfl
theorem in_5_66 : Cond.methodLink RX2 183 yX2_moveFrame ∈ m_gW := m_t (m_tb5 (List.mem_of_getElem? (i := 66) rfl)) rfl
theorem in_5_70 : Cond.methodLink RX2 144 yX2_work ∈ m_gW := m_t (m_tb5 (List.mem_of_getElem? (i := 70) rfl)) rfl
theorem in_5_74 : Cond.methodLink RX2 186 yX2_give ∈ m_gW := m_t (m_tb5 (List.mem_of_getElem? (i := 74) rfl)) rfl
theorem in_5_78 : Cond.methodLink RX2 189 yX2_layCell ∈ m_gW := m_t (m_tb5 (List.mem_of_getElem? (i := 78) rfl)) rfl
theorem in_5_82 : Cond.methodLink RX2 201 yX2_freeCell ∈ m_gW := m_t (m_tb5 (List.mem_of_getElem? (i := 82) rfl)) rfl
theorem in_5_86 : Cond.methodLink RX2 205 yX3_varOfLine ∈ m_gW := m_t (m_tb5 (List.mem_of_getElem? (i := 86) rfl)) rfl
theorem in_5_87 : Cond.methodLink RX2 208 yX6_pointedBy ∈ m_gW := m_t (m_tb5 (List.mem_of_getElem? (i := 87) rfl)) rfl
theorem in_5_88 : Cond.methodLink RX2 211 yX2_latestRoom ∈ m_gW := m_t (m_tb5 (List.mem_of_getElem? (i := 88) rfl)) rfl
theorem in_5_92 : Cond.methodLink RX2 214 yJ9_max_7cf53 ∈ m_gW := m_t (m_tb5 (List.mem_of_getElem? (i := 92) rfl)) rfl
theorem in_5_93 : Cond.methodLink RX2 192 yX2_giveSide ∈ m_gW := m_t (m_tb5 (List.mem_of_getElem? (i := 93) rfl)) rfl
theorem in_5_97 : Cond.methodLink RX2 195 yX2_giveVar ∈ m_gW := m_t (m_tb5 (List.mem_of_getElem? (i := 97) rfl)) rfl
theorem in_5_101 : Cond.methodLink RX2 198 yX3_elseSlot ∈ m_gW := m_t (m_tb5 (List.mem_of_getElem? (i := 101) rfl)) rfl
theorem in_5_102 : Cond.methodLink RX2 147 yX2_settle ∈ m_gW := m_t (m_tb5 (List.mem_of_getElem? (i := 102) rfl)) rfl
theorem in_5_106 : Cond.methodLink RX2 225 yX2_freeRooms ∈ m_gW := m_t (m_tb5 (List.mem_of_getElem? (i := 106) rfl)) rfl
theorem in_5_110 : Cond.methodLink RX2 231 yX2_freeRoom ∈ m_gW := m_t (m_tb5 (List.mem_of_getElem? (i := 110) rfl)) rfl
theorem in_5_114 : Cond.methodLink RX2 234 yX3_varCount ∈ m_gW := m_t (m_tb5 (List.mem_of_getElem? (i := 114) rfl)) rfl
theorem in_5_115 : Cond.methodLink RX2 237 yX6_reachOfVar ∈ m_gW := m_t (m_tb5 (List.mem_of_getElem? (i := 115) rfl)) rfl
theorem in_5_116 : Cond.methodLink RL 79 yX11_now ∈ m_gW := m_t (m_tb5 (List.mem_of_getElem? (i := 116) rfl)) rfl
theorem in_5_120 : Cond.methodLink RX11 237 yX2_latestFun ∈ m_gW := m_t (m_tb5 (List.mem_of_getElem? (i := 120) rfl)) rfl
theorem in_5_124 : Cond.methodLink RX11 240 yX2_latestLine ∈ m_gW := m_t (m_tb5 (List.mem_of_getElem? (i := 124) rfl)) rfl
theorem in_5_128 : Cond.methodLink RL 83 yX11_kind ∈ m_gW := m_t (m_tb5 (List.mem_of_getElem? (i := 128) rfl)) rfl
theorem in_5_132 : Cond.methodLink RX11 261 yX2_hasVar ∈ m_gW := m_t (m_tb5 (List.mem_of_getElem? (i := 132) rfl)) rfl
theorem in_5_136 : Cond.methodLink RX2 111 yX3_hasVar ∈ m_gW := m_t (m_tb5 (List.mem_of_getElem? (i := 136) rfl)) rfl
theorem in_5_137 : Cond.methodLink RL 90 yX11_cell ∈ m_gW := m_t (m_tb5 (List.mem_of_getElem? (i := 137) rfl)) rfl
theorem in_5_141 : Cond.methodLink RX11 270 yX2_hasCell ∈ m_gW := m_t (m_tb5 (List.mem_of_getElem? (i := 141) rfl)) rfl
theorem in_5_142 : Cond.methodLink RX11 273 yX2_regionOfCell ∈ m_gW := m_t (m_tb5 (List.mem_of_getElem? (i := 142) rfl)) rfl
theorem in_5_143 : Cond.methodLink RL 97 yX11_gave ∈ m_gW := m_t (m_tb5 (List.mem_of_getElem? (i := 143) rfl)) rfl
theorem in_5_147 : Cond.methodLink RX11 282 yX2_resultKind ∈ m_gW := m_t (m_tb5 (List.mem_of_getElem? (i := 147) rfl)) rfl
theorem in_5_151 : Cond.methodLink RL 105 yX11_room ∈ m_gW := m_t (m_tb5 (List.mem_of_getElem? (i := 151) rfl)) rfl
theorem in_5_155 : Cond.methodLink RX11 288 yX2_hasRoom ∈ m_gW := m_t (m_tb5 (List.mem_of_getElem? (i := 155) rfl)) rfl
theorem in_5_156 : Cond.methodLink RL 109 yX11_roomful ∈ m_gW := m_t (m_tb5 (List.mem_of_getElem? (i := 156) rfl)) rfl
theorem in_5_160 : Cond.methodLink RX11 294 yX2_cellsIn ∈ m_gW := m_t (m_tb5 (List.mem_of_getElem? (i := 160) rfl)) rfl
theorem in_5_164 : Cond.methodLink RL 113 yX11_reached ∈ m_gW := m_t (m_tb5 (List.mem_of_getElem? (i := 164) rfl)) rfl
theorem in_5_168 : Cond.methodLink RX11 297 yX1_countReached ∈ m_gW := m_t (m_tb5 (List.mem_of_getElem? (i := 168) rfl)) rfl
theorem in_5_172 : Cond.methodLink RX1 31 yX3_varCount ∈ m_gW := m_t (m_tb5 (List.mem_of_getElem? (i := 172) rfl)) rfl
theorem in_5_173 : Cond.methodLink RX1 43 yX1_come ∈ m_gW := m_t (m_tb5 (List.mem_of_getElem? (i := 173) rfl)) rfl
theorem in_5_177 : Cond.methodLink RX1 60 yX2_hasCell ∈ m_gW := m_t (m_tb5 (List.mem_of_getElem? (i := 177) rfl)) rfl
theorem in_5_178 : Cond.methodLink RX1 47 yX2_resultKind ∈ m_gW := m_t (m_tb5 (List.mem_of_getElem? (i := 178) rfl)) rfl
theorem in_5_179 : Cond.methodLink RL 117 yX11_isReached ∈ m_gW := m_t (m_tb5 (List.mem_of_getElem? (i := 179) rfl)) rfl
theorem in_5_183 : Cond.methodLink RL 121 yX11_drag ∈ m_gW := m_t (m_tb5 (List.mem_of_getElem? (i := 183) rfl)) rfl
theorem in_5_187 : Cond.methodLink RL 125 yX11_run ∈ m_gW := m_t (m_tb5 (List.mem_of_getElem? (i := 187) rfl)) rfl
theorem in_5_191 : Cond.methodLink RX11 308 yJ9_max_7cf53 ∈ m_gW := m_t (m_tb5 (List.mem_of_getElem? (i := 191) rfl)) rfl
theorem in_5_192 : Cond.methodLink RX11 313 yX11_tellRan ∈ m_gW := m_t (m_tb5 (List.mem_of_getElem? (i := 192) rfl)) rfl
theorem in_5_196 : Cond.methodLink RL 129 yX11_ran ∈ m_gW := m_t (m_tb5 (List.mem_of_getElem? (i := 196) rfl)) rfl
theorem in_5_200 : Cond.methodLink RL 133 yX11_odds ∈ m_gW := m_t (m_tb5 (List.mem_of_getElem? (i := 200) rfl)) rfl
theorem in_5_204 : Cond.methodLink RX11 316 yX11_endsByDraws ∈ m_gW := m_t (m_tb5 (List.mem_of_getElem? (i := 204) rfl)) rfl
theorem in_5_209 : Cond.methodLink RL 137 yX11_undo ∈ m_gW := m_t (m_tb5 (List.mem_of_getElem? (i := 209) rfl)) rfl
theorem in_5_213 : Cond.methodLink RX11 319 yX0_takeBack ∈ m_gW := m_t (m_tb5 (List.mem_of_getElem? (i := 213) rfl)) rfl
theorem in_5_217 : Cond.methodLink RL 141 yX11_sentence ∈ m_gW := m_t (m_tb5 (List.mem_of_getElem? (i := 217) rfl)) rfl
theorem in_5_221 : Cond.methodLink RX11 323 yX8_readsAll ∈ m_gW := m_t (m_tb5 (List.mem_of_getElem? (i := 221) rfl)) rfl
theorem in_5_225 : Cond.methodLink RX8 27 yX7_clear ∈ m_gW := m_t (m_tb5 (List.mem_of_getElem? (i := 225) rfl)) rfl
theorem in_5_226 : Cond.methodLink RX8 30 yX9_open ∈ m_gW := m_t (m_tb5 (List.mem_of_getElem? (i := 226) rfl)) rfl
theorem in_5_227 : Cond.methodLink RX8 34 yX8_readsCond ∈ m_gW := m_t (m_tb5 (List.mem_of_getElem? (i := 227) rfl)) rfl
theorem in_5_231 : Cond.methodLink RX8 50 yX8_readsParts ∈ m_gW := m_t (m_tb5 (List.mem_of_getElem? (i := 231) rfl)) rfl
theorem in_5_235 : Cond.methodLink RX8 63 yX8_readsOne ∈ m_gW := m_t (m_tb5 (List.mem_of_getElem? (i := 235) rfl)) rfl
theorem in_5_239 : Cond.methodLink RX8 46 yX9_failsBy ∈ m_gW := m_t (m_tb5 (List.mem_of_getElem? (i := 239) rfl)) rfl
theorem in_6_0 : Cond.methodLink RX8 56 yX9_advance ∈ m_gW := m_t (m_tb6 (List.mem_of_getElem? (i := 0) rfl)) rfl
theorem in_6_1 : Cond.methodLink RX8 72 yX9_takesSign ∈ m_gW := m_t (m_tb6 (List.mem_of_getElem? (i := 1) rfl)) rfl
theorem in_6_2 : Cond.methodLink RX8 59 yX7_put ∈ m_gW := m_t (m_tb6 (List.mem_of_getElem? (i := 2) rfl)) rfl
theorem in_6_6 : Cond.methodLink RX8 75 yX8_readsFunOf ∈ m_gW := m_t (m_tb6 (List.mem_of_getElem? (i := 6) rfl)) rfl
theorem in_6_10 : Cond.methodLink RX8 85 yX3_funOf ∈ m_gW := m_t (m_tb6 (List.mem_of_getElem? (i := 10) rfl)) rfl
theorem in_6_11 : Cond.methodLink RX8 78 yX8_readsMeasure ∈ m_gW := m_t (m_tb6 (List.mem_of_getElem? (i := 11) rfl)) rfl
theorem in_6_15 : Cond.methodLink RX11 329 yX7_copyFrom ∈ m_gW := m_t (m_tb6 (List.mem_of_getElem? (i := 15) rfl)) rfl
theorem in_6_19 : Cond.methodLink RX7 36 arraycopyName ∈ m_gW := m_t (m_tb6 (List.mem_of_getElem? (i := 19) rfl)) rfl
theorem in_6_20 : Cond.methodLink RL 145 yX11_said ∈ m_gW := m_t (m_tb6 (List.mem_of_getElem? (i := 20) rfl)) rfl
theorem in_6_24 : Cond.methodLink RX11 341 yX7_holds ∈ m_gW := m_t (m_tb6 (List.mem_of_getElem? (i := 24) rfl)) rfl
theorem in_6_28 : Cond.methodLink RX7 42 yX7_isTrue ∈ m_gW := m_t (m_tb6 (List.mem_of_getElem? (i := 28) rfl)) rfl
theorem in_6_32 : Cond.methodLink RX7 52 yX6_isFinite ∈ m_gW := m_t (m_tb6 (List.mem_of_getElem? (i := 32) rfl)) rfl
theorem in_6_33 : Cond.methodLink RX7 64 yX2_roomsOf ∈ m_gW := m_t (m_tb6 (List.mem_of_getElem? (i := 33) rfl)) rfl
theorem in_6_34 : Cond.methodLink RX7 76 yX2_cellsOf ∈ m_gW := m_t (m_tb6 (List.mem_of_getElem? (i := 34) rfl)) rfl
theorem in_6_35 : Cond.methodLink RX7 79 yX7_fits ∈ m_gW := m_t (m_tb6 (List.mem_of_getElem? (i := 35) rfl)) rfl
theorem in_6_39 : Cond.methodLink RL 149 yX11_image ∈ m_gW := m_t (m_tb6 (List.mem_of_getElem? (i := 39) rfl)) rfl
theorem in_6_43 : Cond.methodLink RX11 345 yX10_copyFrom ∈ m_gW := m_t (m_tb6 (List.mem_of_getElem? (i := 43) rfl)) rfl
theorem in_6_47 : Cond.methodLink RX10 30 yX3_copyFrom ∈ m_gW := m_t (m_tb6 (List.mem_of_getElem? (i := 47) rfl)) rfl
theorem in_6_48 : Cond.methodLink RX10 34 yX2_copyFrom ∈ m_gW := m_t (m_tb6 (List.mem_of_getElem? (i := 48) rfl)) rfl
theorem in_6_49 : Cond.methodLink RX10 37 yX7_copyFrom ∈ m_gW := m_t (m_tb6 (List.mem_of_getElem? (i := 49) rfl)) rfl
theorem in_6_50 : Cond.methodLink RL 153 yX11_restore ∈ m_gW := m_t (m_tb6 (List.mem_of_getElem? (i := 50) rfl)) rfl
theorem in_6_54 : Cond.methodLink RL 157 yX11_count ∈ m_gW := m_t (m_tb6 (List.mem_of_getElem? (i := 54) rfl)) rfl
theorem in_6_58 : Cond.methodLink RX11 351 yJ6_bitCount_0f7a4 ∈ m_gW := m_t (m_tb6 (List.mem_of_getElem? (i := 58) rfl)) rfl
theorem in_6_59 : Cond.methodLink RL 47 yL_fun ∈ m_gW := m_t (m_tb6 (List.mem_of_getElem? (i := 59) rfl)) rfl
theorem in_6_63 : Cond.methodLink RL 7 yX11_fun ∈ m_gW := m_t (m_tb6 (List.mem_of_getElem? (i := 63) rfl)) rfl
theorem in_6_128 : Cond.methodLink RX11 161 yX3_calledBy ∈ m_gW := m_t (m_tb6 (List.mem_of_getElem? (i := 128) rfl)) rfl
theorem in_6_132 : Cond.methodLink RX3 69 yX3_isCall ∈ m_gW := m_t (m_tb6 (List.mem_of_getElem? (i := 132) rfl)) rfl
theorem in_6_136 : Cond.methodLink RX11 171 yX3_endsWithLeavingCall ∈ m_gW := m_t (m_tb6 (List.mem_of_getElem? (i := 136) rfl)) rfl
theorem in_6_140 : Cond.methodLink RX3 75 yX3_leavesBy ∈ m_gW := m_t (m_tb6 (List.mem_of_getElem? (i := 140) rfl)) rfl
theorem in_6_141 : Cond.methodLink RL 87 yL_value ∈ m_gW := m_t (m_tb6 (List.mem_of_getElem? (i := 141) rfl)) rfl
theorem in_6_144 : Cond.methodLink RL 15 yX11_value ∈ m_gW := m_t (m_tb6 (List.mem_of_getElem? (i := 144) rfl)) rfl
theorem in_6_148 : Cond.methodLink RL 94 yL_in ∈ m_gW := m_t (m_tb6 (List.mem_of_getElem? (i := 148) rfl)) rfl
theorem in_6_151 : Cond.methodLink RL 18 yX11_in ∈ m_gW := m_t (m_tb6 (List.mem_of_getElem? (i := 151) rfl)) rfl
theorem in_6_155 : Cond.methodLink RL 101 yL_result ∈ m_gW := m_t (m_tb6 (List.mem_of_getElem? (i := 155) rfl)) rfl
theorem in_6_158 : Cond.methodLink RL 21 yX11_result ∈ m_gW := m_t (m_tb6 (List.mem_of_getElem? (i := 158) rfl)) rfl
theorem in_6_162 : Cond.methodLink RL 53 yX12_thrown ∈ m_gW := m_t (m_tb6 (List.mem_of_getElem? (i := 162) rfl)) rfl
theorem in_6_166 : Cond.methodLink RL 33 yX12_feed ∈ m_gW := m_t (m_tb6 (List.mem_of_getElem? (i := 166) rfl)) rfl
theorem in_6_170 : Cond.methodLink RX12 14 yX12_come ∈ m_gW := m_t (m_tb6 (List.mem_of_getElem? (i := 170) rfl)) rfl
theorem in_6_175 : Cond.methodLink RL 38 yX12_end ∈ m_gW := m_t (m_tb6 (List.mem_of_getElem? (i := 175) rfl)) rfl
theorem in_6_180 : Cond.methodLink RL 28 yX12_init ∈ m_gW := m_t (m_tb6 (List.mem_of_getElem? (i := 180) rfl)) rfl
theorem in_6_183 : Cond.methodLink RX12 93 objectInit ∈ m_gW := m_t (m_tb6 (List.mem_of_getElem? (i := 183) rfl)) rfl
theorem in_6_184 : Cond.methodLink RX12 184 yX12_startSo ∈ m_gW := m_t (m_tb6 (List.mem_of_getElem? (i := 184) rfl)) rfl
theorem in_6_188 : Cond.methodLink RX12 187 yX12_layRegions ∈ m_gW := m_t (m_tb6 (List.mem_of_getElem? (i := 188) rfl)) rfl
theorem in_6_192 : Cond.methodLink RX12 285 yX12_joinLine ∈ m_gW := m_t (m_tb6 (List.mem_of_getElem? (i := 192) rfl)) rfl
theorem in_6_196 : Cond.methodLink RX12 262 yX12_madeBy ∈ m_gW := m_t (m_tb6 (List.mem_of_getElem? (i := 196) rfl)) rfl
theorem in_6_200 : Cond.methodLink RX12 265 yX12_node ∈ m_gW := m_t (m_tb6 (List.mem_of_getElem? (i := 200) rfl)) rfl
theorem in_6_204 : Cond.methodLink RX12 267 yX12_var ∈ m_gW := m_t (m_tb6 (List.mem_of_getElem? (i := 204) rfl)) rfl
theorem in_6_208 : Cond.methodLink RX12 255 yX12_join ∈ m_gW := m_t (m_tb6 (List.mem_of_getElem? (i := 208) rfl)) rfl
theorem in_6_212 : Cond.methodLink RX12 248 yX12_topOf ∈ m_gW := m_t (m_tb6 (List.mem_of_getElem? (i := 212) rfl)) rfl
theorem in_6_216 : Cond.methodLink RX12 251 yX12_sideNode ∈ m_gW := m_t (m_tb6 (List.mem_of_getElem? (i := 216) rfl)) rfl
theorem in_6_220 : Cond.methodLink RX12 270 yX12_pointFrom ∈ m_gW := m_t (m_tb6 (List.mem_of_getElem? (i := 220) rfl)) rfl
theorem in_6_224 : Cond.methodLink RX12 193 yX12_varsOf ∈ m_gW := m_t (m_tb6 (List.mem_of_getElem? (i := 224) rfl)) rfl
theorem in_6_228 : Cond.methodLink RX12 273 yX12_numberFrom ∈ m_gW := m_t (m_tb6 (List.mem_of_getElem? (i := 228) rfl)) rfl
theorem in_6_232 : Cond.methodLink RX12 288 yX12_numbered ∈ m_gW := m_t (m_tb6 (List.mem_of_getElem? (i := 232) rfl)) rfl
theorem in_6_236 : Cond.methodLink RX12 291 yX12_reachFrom ∈ m_gW := m_t (m_tb6 (List.mem_of_getElem? (i := 236) rfl)) rfl
theorem in_7_0 : Cond.methodLink RX12 276 yX12_has ∈ m_gW := m_t (m_tb7 (List.mem_of_getElem? (i := 0) rfl)) rfl
theorem in_7_3 : Cond.methodLink RX12 294 yX12_layFun ∈ m_gW := m_t (m_tb7 (List.mem_of_getElem? (i := 3) rfl)) rfl
theorem in_7_7 : Cond.methodLink RX12 282 yX12_laySpans ∈ m_gW := m_t (m_tb7 (List.mem_of_getElem? (i := 7) rfl)) rfl
theorem in_7_11 : Cond.methodLink RX12 279 yX12_reachIn ∈ m_gW := m_t (m_tb7 (List.mem_of_getElem? (i := 11) rfl)) rfl
theorem in_7_169 : Cond.methodLink RL 42 yX12_program ∈ m_gW := m_t (m_tb7 (List.mem_of_getElem? (i := 169) rfl)) rfl
theorem in_7_173 : Cond.methodLink RX12 233 yX12_begin ∈ m_gW := m_t (m_tb7 (List.mem_of_getElem? (i := 173) rfl)) rfl
theorem in_7_177 : Cond.methodLink RX12 89 yX12_take ∈ m_gW := m_t (m_tb7 (List.mem_of_getElem? (i := 177) rfl)) rfl
theorem in_7_181 : Cond.methodLink RX12 82 yX12_go ∈ m_gW := m_t (m_tb7 (List.mem_of_getElem? (i := 181) rfl)) rfl
theorem in_7_185 : Cond.methodLink RX12 33 yX12_isLetter ∈ m_gW := m_t (m_tb7 (List.mem_of_getElem? (i := 185) rfl)) rfl
theorem in_7_188 : Cond.methodLink RX12 37 yX12_isDigit ∈ m_gW := m_t (m_tb7 (List.mem_of_getElem? (i := 188) rfl)) rfl
theorem in_7_191 : Cond.methodLink RX12 50 yX12_tapeAt ∈ m_gW := m_t (m_tb7 (List.mem_of_getElem? (i := 191) rfl)) rfl
theorem in_7_197 : Cond.methodLink RX12 224 yX12_isWord ∈ m_gW := m_t (m_tb7 (List.mem_of_getElem? (i := 197) rfl)) rfl
theorem in_7_201 : Cond.methodLink RX12 62 yX12_wordOf ∈ m_gW := m_t (m_tb7 (List.mem_of_getElem? (i := 201) rfl)) rfl
theorem in_7_204 : Cond.methodLink RX12 58 yX12_spelt ∈ m_gW := m_t (m_tb7 (List.mem_of_getElem? (i := 204) rfl)) rfl
theorem in_7_207 : Cond.methodLink RX12 236 yX12_readFun ∈ m_gW := m_t (m_tb7 (List.mem_of_getElem? (i := 207) rfl)) rfl
theorem in_7_211 : Cond.methodLink RX12 204 yX12_isBare ∈ m_gW := m_t (m_tb7 (List.mem_of_getElem? (i := 211) rfl)) rfl
theorem in_7_215 : Cond.methodLink RX12 190 yX12_funNow ∈ m_gW := m_t (m_tb7 (List.mem_of_getElem? (i := 215) rfl)) rfl
theorem in_7_219 : Cond.methodLink RX12 72 yX12_bad ∈ m_gW := m_t (m_tb7 (List.mem_of_getElem? (i := 219) rfl)) rfl
theorem in_7_223 : Cond.methodLink RX12 208 yX12_isName ∈ m_gW := m_t (m_tb7 (List.mem_of_getElem? (i := 223) rfl)) rfl
theorem in_7_227 : Cond.methodLink RX12 197 yX12_findIn ∈ m_gW := m_t (m_tb7 (List.mem_of_getElem? (i := 227) rfl)) rfl
theorem in_7_230 : Cond.methodLink RX12 211 yX12_readParameter ∈ m_gW := m_t (m_tb7 (List.mem_of_getElem? (i := 230) rfl)) rfl
theorem in_7_234 : Cond.methodLink RX12 201 yX12_findVar ∈ m_gW := m_t (m_tb7 (List.mem_of_getElem? (i := 234) rfl)) rfl
theorem in_7_238 : Cond.methodLink RX12 239 yX12_readIs ∈ m_gW := m_t (m_tb7 (List.mem_of_getElem? (i := 238) rfl)) rfl
theorem in_8_2 : Cond.methodLink RX12 230 yX12_readExpr ∈ m_gW := m_t (m_tb8 (List.mem_of_getElem? (i := 2) rfl)) rfl
theorem in_8_6 : Cond.methodLink RX12 214 yX12_readVar ∈ m_gW := m_t (m_tb8 (List.mem_of_getElem? (i := 6) rfl)) rfl
theorem in_8_10 : Cond.methodLink RX12 218 yX12_readVars ∈ m_gW := m_t (m_tb8 (List.mem_of_getElem? (i := 10) rfl)) rfl
theorem in_8_14 : Cond.methodLink RX12 221 yX12_readCalled ∈ m_gW := m_t (m_tb8 (List.mem_of_getElem? (i := 14) rfl)) rfl
theorem in_8_18 : Cond.methodLink RX12 227 yX12_readWhen ∈ m_gW := m_t (m_tb8 (List.mem_of_getElem? (i := 18) rfl)) rfl
theorem in_8_22 : Cond.methodLink RX12 242 yX12_readEnd ∈ m_gW := m_t (m_tb8 (List.mem_of_getElem? (i := 22) rfl)) rfl
theorem in_8_26 : Cond.methodLink RX12 86 yX12_isSign ∈ m_gW := m_t (m_tb8 (List.mem_of_getElem? (i := 26) rfl)) rfl
theorem in_8_30 : Cond.methodLink RL 46 yX12_fault ∈ m_gW := m_t (m_tb8 (List.mem_of_getElem? (i := 30) rfl)) rfl
theorem in_8_34 : Cond.methodLink RL 52 yX12_fun ∈ m_gW := m_t (m_tb8 (List.mem_of_getElem? (i := 34) rfl)) rfl
theorem in_8_38 : Cond.methodLink RX12 309 yX12_isFun ∈ m_gW := m_t (m_tb8 (List.mem_of_getElem? (i := 38) rfl)) rfl
theorem in_8_42 : Cond.methodLink RX12 75 yX12_isIn ∈ m_gW := m_t (m_tb8 (List.mem_of_getElem? (i := 42) rfl)) rfl
theorem in_8_45 : Cond.methodLink RX12 312 yX12_refuse ∈ m_gW := m_t (m_tb8 (List.mem_of_getElem? (i := 45) rfl)) rfl
theorem in_8_49 : Cond.methodLink RX12 315 yX12_calledBy ∈ m_gW := m_t (m_tb8 (List.mem_of_getElem? (i := 49) rfl)) rfl
theorem in_8_53 : Cond.methodLink RX12 318 yX12_isLeft ∈ m_gW := m_t (m_tb8 (List.mem_of_getElem? (i := 53) rfl)) rfl
theorem in_8_57 : Cond.methodLink RL 59 yX12_points ∈ m_gW := m_t (m_tb8 (List.mem_of_getElem? (i := 57) rfl)) rfl
theorem in_8_61 : Cond.methodLink RL 63 yX12_region ∈ m_gW := m_t (m_tb8 (List.mem_of_getElem? (i := 61) rfl)) rfl
theorem in_8_65 : Cond.methodLink RX12 321 yX12_isRegion ∈ m_gW := m_t (m_tb8 (List.mem_of_getElem? (i := 65) rfl)) rfl
theorem in_8_69 : Cond.methodLink RX12 306 yX12_ownersOf ∈ m_gW := m_t (m_tb8 (List.mem_of_getElem? (i := 69) rfl)) rfl
theorem in_8_73 : Cond.methodLink RX12 324 yX12_isFinite ∈ m_gW := m_t (m_tb8 (List.mem_of_getElem? (i := 73) rfl)) rfl
theorem in_8_77 : Cond.methodLink RX12 300 yX12_isOuter ∈ m_gW := m_t (m_tb8 (List.mem_of_getElem? (i := 77) rfl)) rfl
theorem in_8_81 : Cond.methodLink RX12 297 yX12_mainFun ∈ m_gW := m_t (m_tb8 (List.mem_of_getElem? (i := 81) rfl)) rfl
theorem in_8_85 : Cond.methodLink RX12 303 yX12_bits ∈ m_gW := m_t (m_tb8 (List.mem_of_getElem? (i := 85) rfl)) rfl
theorem in_8_88 : Cond.methodLink RX12 327 yX12_roomsOf ∈ m_gW := m_t (m_tb8 (List.mem_of_getElem? (i := 88) rfl)) rfl
theorem in_8_92 : Cond.methodLink RX12 330 yX12_cellsOf ∈ m_gW := m_t (m_tb8 (List.mem_of_getElem? (i := 92) rfl)) rfl
theorem in_8_96 : Cond.methodLink RL 68 yX12_span ∈ m_gW := m_t (m_tb8 (List.mem_of_getElem? (i := 96) rfl)) rfl
theorem in_8_100 : Cond.methodLink RL 140 yX12_undo ∈ m_gW := m_t (m_tb8 (List.mem_of_getElem? (i := 100) rfl)) rfl
theorem in_8_104 : Cond.methodLink RX12 395 yX12_comeBack ∈ m_gW := m_t (m_tb8 (List.mem_of_getElem? (i := 104) rfl)) rfl
theorem in_8_108 : Cond.methodLink RL 73 yX12_load ∈ m_gW := m_t (m_tb8 (List.mem_of_getElem? (i := 108) rfl)) rfl
theorem in_8_112 : Cond.methodLink RX12 398 yX12_canLoad ∈ m_gW := m_t (m_tb8 (List.mem_of_getElem? (i := 112) rfl)) rfl
theorem in_8_116 : Cond.methodLink RX12 401 yX12_snap ∈ m_gW := m_t (m_tb8 (List.mem_of_getElem? (i := 116) rfl)) rfl
theorem in_8_120 : Cond.methodLink RX12 391 yX12_save ∈ m_gW := m_t (m_tb8 (List.mem_of_getElem? (i := 120) rfl)) rfl
theorem in_8_124 : Cond.methodLink RX12 404 yX12_loads ∈ m_gW := m_t (m_tb8 (List.mem_of_getElem? (i := 124) rfl)) rfl
theorem in_8_128 : Cond.methodLink RX12 339 yX12_makeRoom ∈ m_gW := m_t (m_tb8 (List.mem_of_getElem? (i := 128) rfl)) rfl
theorem in_8_132 : Cond.methodLink RX12 342 yX12_pushFrame ∈ m_gW := m_t (m_tb8 (List.mem_of_getElem? (i := 132) rfl)) rfl
theorem in_8_136 : Cond.methodLink RX12 345 yX12_setVar ∈ m_gW := m_t (m_tb8 (List.mem_of_getElem? (i := 136) rfl)) rfl
theorem in_8_140 : Cond.methodLink RX12 336 yX12_slot ∈ m_gW := m_t (m_tb8 (List.mem_of_getElem? (i := 140) rfl)) rfl
theorem in_8_144 : Cond.methodLink RL 78 yX12_steps ∈ m_gW := m_t (m_tb8 (List.mem_of_getElem? (i := 144) rfl)) rfl
theorem in_8_148 : Cond.methodLink RX12 408 yX12_oneStep ∈ m_gW := m_t (m_tb8 (List.mem_of_getElem? (i := 148) rfl)) rfl
theorem in_8_152 : Cond.methodLink RX12 333 yX12_funOf ∈ m_gW := m_t (m_tb8 (List.mem_of_getElem? (i := 152) rfl)) rfl
theorem in_8_156 : Cond.methodLink RX12 385 yX12_whyStop ∈ m_gW := m_t (m_tb8 (List.mem_of_getElem? (i := 156) rfl)) rfl
theorem in_8_160 : Cond.methodLink RX12 349 yX12_lineOf ∈ m_gW := m_t (m_tb8 (List.mem_of_getElem? (i := 160) rfl)) rfl
theorem in_8_164 : Cond.methodLink RX12 355 yX12_kindAt ∈ m_gW := m_t (m_tb8 (List.mem_of_getElem? (i := 164) rfl)) rfl
theorem in_8_168 : Cond.methodLink RX12 358 yX12_calls ∈ m_gW := m_t (m_tb8 (List.mem_of_getElem? (i := 168) rfl)) rfl
theorem in_8_172 : Cond.methodLink RX12 352 yX12_valueAt ∈ m_gW := m_t (m_tb8 (List.mem_of_getElem? (i := 172) rfl)) rfl
theorem in_8_176 : Cond.methodLink RX12 361 yX12_goesAhead ∈ m_gW := m_t (m_tb8 (List.mem_of_getElem? (i := 176) rfl)) rfl
theorem in_8_180 : Cond.methodLink RX12 388 yX12_does ∈ m_gW := m_t (m_tb8 (List.mem_of_getElem? (i := 180) rfl)) rfl
theorem in_8_184 : Cond.methodLink RX12 373 yX12_gives ∈ m_gW := m_t (m_tb8 (List.mem_of_getElem? (i := 184) rfl)) rfl
theorem in_8_188 : Cond.methodLink RX12 370 yX12_frees ∈ m_gW := m_t (m_tb8 (List.mem_of_getElem? (i := 188) rfl)) rfl
theorem in_8_192 : Cond.methodLink RX12 364 yX12_latestRoom ∈ m_gW := m_t (m_tb8 (List.mem_of_getElem? (i := 192) rfl)) rfl
theorem in_8_196 : Cond.methodLink RX12 367 yX12_freeRoom ∈ m_gW := m_t (m_tb8 (List.mem_of_getElem? (i := 196) rfl)) rfl
theorem in_8_200 : Cond.methodLink RX12 376 yX12_givesAt ∈ m_gW := m_t (m_tb8 (List.mem_of_getElem? (i := 200) rfl)) rfl
theorem in_8_204 : Cond.methodLink RX12 379 yX12_layCell ∈ m_gW := m_t (m_tb8 (List.mem_of_getElem? (i := 204) rfl)) rfl
theorem in_8_208 : Cond.methodLink RX12 382 yX12_callsFun ∈ m_gW := m_t (m_tb8 (List.mem_of_getElem? (i := 208) rfl)) rfl
theorem in_8_212 : Cond.methodLink RL 82 yX12_now ∈ m_gW := m_t (m_tb8 (List.mem_of_getElem? (i := 212) rfl)) rfl
theorem in_8_216 : Cond.methodLink RL 86 yX12_kind ∈ m_gW := m_t (m_tb8 (List.mem_of_getElem? (i := 216) rfl)) rfl
theorem in_8_220 : Cond.methodLink RX12 411 yX12_isVar ∈ m_gW := m_t (m_tb8 (List.mem_of_getElem? (i := 220) rfl)) rfl
theorem in_8_224 : Cond.methodLink RL 89 yX12_value ∈ m_gW := m_t (m_tb8 (List.mem_of_getElem? (i := 224) rfl)) rfl
theorem in_8_228 : Cond.methodLink RL 93 yX12_cell ∈ m_gW := m_t (m_tb8 (List.mem_of_getElem? (i := 228) rfl)) rfl
theorem in_8_232 : Cond.methodLink RX12 414 yX12_isCell ∈ m_gW := m_t (m_tb8 (List.mem_of_getElem? (i := 232) rfl)) rfl
theorem in_8_236 : Cond.methodLink RL 96 yX12_in ∈ m_gW := m_t (m_tb8 (List.mem_of_getElem? (i := 236) rfl)) rfl
theorem in_9_0 : Cond.methodLink RL 100 yX12_gave ∈ m_gW := m_t (m_tb9 (List.mem_of_getElem? (i := 0) rfl)) rfl
theorem in_9_4 : Cond.methodLink RL 104 yX12_result ∈ m_gW := m_t (m_tb9 (List.mem_of_getElem? (i := 4) rfl)) rfl
theorem in_9_8 : Cond.methodLink RL 108 yX12_room ∈ m_gW := m_t (m_tb9 (List.mem_of_getElem? (i := 8) rfl)) rfl
theorem in_9_12 : Cond.methodLink RL 112 yX12_roomful ∈ m_gW := m_t (m_tb9 (List.mem_of_getElem? (i := 12) rfl)) rfl
theorem in_9_16 : Cond.methodLink RL 116 yX12_reached ∈ m_gW := m_t (m_tb9 (List.mem_of_getElem? (i := 16) rfl)) rfl
theorem in_9_20 : Cond.methodLink RX12 423 yX12_markReached ∈ m_gW := m_t (m_tb9 (List.mem_of_getElem? (i := 20) rfl)) rfl
theorem in_9_24 : Cond.methodLink RX12 420 yX12_comesTo ∈ m_gW := m_t (m_tb9 (List.mem_of_getElem? (i := 24) rfl)) rfl
theorem in_9_28 : Cond.methodLink RL 120 yX12_isReached ∈ m_gW := m_t (m_tb9 (List.mem_of_getElem? (i := 28) rfl)) rfl
theorem in_9_32 : Cond.methodLink RL 124 yX12_drag ∈ m_gW := m_t (m_tb9 (List.mem_of_getElem? (i := 32) rfl)) rfl
theorem in_9_36 : Cond.methodLink RX12 426 yX12_dragNow ∈ m_gW := m_t (m_tb9 (List.mem_of_getElem? (i := 36) rfl)) rfl
theorem in_9_40 : Cond.methodLink RL 128 yX12_run ∈ m_gW := m_t (m_tb9 (List.mem_of_getElem? (i := 40) rfl)) rfl
theorem in_9_44 : Cond.methodLink RL 132 yX12_ran ∈ m_gW := m_t (m_tb9 (List.mem_of_getElem? (i := 44) rfl)) rfl
theorem in_9_48 : Cond.methodLink RL 136 yX12_odds ∈ m_gW := m_t (m_tb9 (List.mem_of_getElem? (i := 48) rfl)) rfl
theorem in_9_52 : Cond.methodLink RX12 440 yX12_ends ∈ m_gW := m_t (m_tb9 (List.mem_of_getElem? (i := 52) rfl)) rfl
theorem in_9_56 : Cond.methodLink RX12 437 yX12_draw ∈ m_gW := m_t (m_tb9 (List.mem_of_getElem? (i := 56) rfl)) rfl
theorem in_9_61 : Cond.methodLink RL 144 yX12_sentence ∈ m_gW := m_t (m_tb9 (List.mem_of_getElem? (i := 61) rfl)) rfl
theorem in_9_65 : Cond.methodLink RX12 477 yX12_readOr ∈ m_gW := m_t (m_tb9 (List.mem_of_getElem? (i := 65) rfl)) rfl
theorem in_9_69 : Cond.methodLink RX12 446 yX12_readAnd ∈ m_gW := m_t (m_tb9 (List.mem_of_getElem? (i := 69) rfl)) rfl
theorem in_9_73 : Cond.methodLink RX12 456 yX12_readSaid ∈ m_gW := m_t (m_tb9 (List.mem_of_getElem? (i := 73) rfl)) rfl
theorem in_9_77 : Cond.methodLink RX12 465 yX12_readBracket ∈ m_gW := m_t (m_tb9 (List.mem_of_getElem? (i := 77) rfl)) rfl
theorem in_9_81 : Cond.methodLink RX12 468 yX12_readNot ∈ m_gW := m_t (m_tb9 (List.mem_of_getElem? (i := 81) rfl)) rfl
theorem in_9_85 : Cond.methodLink RX12 452 yX12_saysOne ∈ m_gW := m_t (m_tb9 (List.mem_of_getElem? (i := 85) rfl)) rfl
theorem in_9_89 : Cond.methodLink RX12 471 yX12_readOf ∈ m_gW := m_t (m_tb9 (List.mem_of_getElem? (i := 89) rfl)) rfl
theorem in_9_93 : Cond.methodLink RX12 480 yX12_readFunName ∈ m_gW := m_t (m_tb9 (List.mem_of_getElem? (i := 93) rfl)) rfl
theorem in_9_97 : Cond.methodLink RX12 474 yX12_readCompare ∈ m_gW := m_t (m_tb9 (List.mem_of_getElem? (i := 97) rfl)) rfl
theorem in_9_101 : Cond.methodLink RX12 483 yX12_readNumber ∈ m_gW := m_t (m_tb9 (List.mem_of_getElem? (i := 101) rfl)) rfl
theorem in_9_105 : Cond.methodLink RL 148 yX12_said ∈ m_gW := m_t (m_tb9 (List.mem_of_getElem? (i := 105) rfl)) rfl
theorem in_9_109 : Cond.methodLink RX12 486 yX12_holds ∈ m_gW := m_t (m_tb9 (List.mem_of_getElem? (i := 109) rfl)) rfl
theorem in_9_113 : Cond.methodLink RL 152 yX12_image ∈ m_gW := m_t (m_tb9 (List.mem_of_getElem? (i := 113) rfl)) rfl
theorem in_9_117 : Cond.methodLink RL 156 yX12_restore ∈ m_gW := m_t (m_tb9 (List.mem_of_getElem? (i := 117) rfl)) rfl
theorem in_9_121 : Cond.methodLink RL 160 yX12_count ∈ m_gW := m_t (m_tb9 (List.mem_of_getElem? (i := 121) rfl)) rfl
theorem in_9_125 : Cond.methodLink RX12 489 yX12_finiteMany ∈ m_gW := m_t (m_tb9 (List.mem_of_getElem? (i := 125) rfl)) rfl
theorem in_1_30 : Cond.code yX11_init cX11_init 1 none ∈ m_gW := m_t (m_tb1 (List.mem_of_getElem? (i := 30) rfl)) rfl
theorem in_1_33 : Cond.code objectInit ⟨#[0xb1]⟩ 1 none ∈ m_gW := m_t (m_tb1 (List.mem_of_getElem? (i := 33) rfl)) rfl
theorem in_1_38 : Cond.code yX4_init cX4_init 1 none ∈ m_gW := m_t (m_tb1 (List.mem_of_getElem? (i := 38) rfl)) rfl
theorem in_1_44 : Cond.code yX3_init cX3_init 1 none ∈ m_gW := m_t (m_tb1 (List.mem_of_getElem? (i := 44) rfl)) rfl
theorem in_1_50 : Cond.code yX6_init cX6_init 1 none ∈ m_gW := m_t (m_tb1 (List.mem_of_getElem? (i := 50) rfl)) rfl
theorem in_1_190 : Cond.code yX9_init cX9_init 6 none ∈ m_gW := m_t (m_tb1 (List.mem_of_getElem? (i := 190) rfl)) rfl
theorem in_1_195 : Cond.code yJ9_max_7cf53 cJ9_max_7cf53 2 (some .int) ∈ m_gW := m_t (m_tb1 (List.mem_of_getElem? (i := 195) rfl)) rfl
theorem in_1_200 : Cond.code yJ0_length_8abf5 cJ0_length_8abf5 1 (some .int) ∈ m_gW := m_t (m_tb1 (List.mem_of_getElem? (i := 200) rfl)) rfl
theorem in_1_204 : Cond.code yJ0_coder_7d493 cJ0_coder_7d493 1 (some .byte) ∈ m_gW := m_t (m_tb1 (List.mem_of_getElem? (i := 204) rfl)) rfl
theorem in_1_210 : Cond.code yJ0_charAt_5068e cJ0_charAt_5068e 2 (some .char) ∈ m_gW := m_t (m_tb1 (List.mem_of_getElem? (i := 210) rfl)) rfl
theorem in_1_214 : Cond.code yJ0_isLatin1_aae02 cJ0_isLatin1_aae02 1 (some .boolean) ∈ m_gW := m_t (m_tb1 (List.mem_of_getElem? (i := 214) rfl)) rfl
theorem in_1_217 : Cond.code yJ1_charAt_3b067 cJ1_charAt_3b067 2 (some .char) ∈ m_gW := m_t (m_tb1 (List.mem_of_getElem? (i := 217) rfl)) rfl
theorem in_1_220 : Cond.code yJ0_checkIndex_df160 cJ0_checkIndex_df160 2 none ∈ m_gW := m_t (m_tb1 (List.mem_of_getElem? (i := 220) rfl)) rfl
theorem in_1_225 : Cond.code yJ3_checkIndex_8e157 cJ3_checkIndex_8e157 3 (some .int) ∈ m_gW := m_t (m_tb1 (List.mem_of_getElem? (i := 225) rfl)) rfl
theorem in_1_228 : Cond.code yJ2_charAt_3b067 cJ2_charAt_3b067 2 (some .char) ∈ m_gW := m_t (m_tb1 (List.mem_of_getElem? (i := 228) rfl)) rfl
theorem in_1_231 : Cond.code yJ2_checkIndex_2214a cJ2_checkIndex_2214a 2 none ∈ m_gW := m_t (m_tb1 (List.mem_of_getElem? (i := 231) rfl)) rfl
theorem in_1_234 : Cond.code yJ2_length_9d52b cJ2_length_9d52b 1 (some .int) ∈ m_gW := m_t (m_tb1 (List.mem_of_getElem? (i := 234) rfl)) rfl
theorem in_1_238 : Cond.code yJ2_getChar_3b067 cJ2_getChar_3b067 2 (some .char) ∈ m_gW := m_t (m_tb1 (List.mem_of_getElem? (i := 238) rfl)) rfl
theorem in_2_7 : Cond.code yX9_withLetter cX9_withLetter 3 (some .long) ∈ m_gW := m_t (m_tb2 (List.mem_of_getElem? (i := 7) rfl)) rfl
theorem in_2_91 : Cond.code yX8_init cX8_init 1 none ∈ m_gW := m_t (m_tb2 (List.mem_of_getElem? (i := 91) rfl)) rfl
theorem in_2_97 : Cond.code yX7_init cX7_init 1 none ∈ m_gW := m_t (m_tb2 (List.mem_of_getElem? (i := 97) rfl)) rfl
theorem in_2_141 : Cond.code yX5_init cX5_init 1 none ∈ m_gW := m_t (m_tb2 (List.mem_of_getElem? (i := 141) rfl)) rfl
theorem in_2_163 : Cond.code yX10_init cX10_init 1 none ∈ m_gW := m_t (m_tb2 (List.mem_of_getElem? (i := 163) rfl)) rfl
theorem in_2_171 : Cond.code yX2_init cX2_init 1 none ∈ m_gW := m_t (m_tb2 (List.mem_of_getElem? (i := 171) rfl)) rfl
theorem in_2_175 : Cond.code yJ7_fill_53178 cJ7_fill_53178 4 none ∈ m_gW := m_t (m_tb2 (List.mem_of_getElem? (i := 175) rfl)) rfl
theorem in_3_41 : Cond.code yX1_init cX1_init 1 none ∈ m_gW := m_t (m_tb3 (List.mem_of_getElem? (i := 41) rfl)) rfl
theorem in_3_58 : Cond.code yX0_init cX0_init 1 none ∈ m_gW := m_t (m_tb3 (List.mem_of_getElem? (i := 58) rfl)) rfl
theorem in_3_116 : Cond.code yX11_feed cX11_feed 6 (some .int) ∈ m_gW := m_t (m_tb3 (List.mem_of_getElem? (i := 116) rfl)) rfl
theorem in_3_120 : Cond.code yX11_putBytes cX11_putBytes 3 none ∈ m_gW := m_t (m_tb3 (List.mem_of_getElem? (i := 120) rfl)) rfl
theorem in_3_124 : Cond.code yX11_end cX11_end 2 (some .boolean) ∈ m_gW := m_t (m_tb3 (List.mem_of_getElem? (i := 124) rfl)) rfl
theorem in_3_128 : Cond.code yX11_program cX11_program 3 (some .int) ∈ m_gW := m_t (m_tb3 (List.mem_of_getElem? (i := 128) rfl)) rfl
theorem in_3_132 : Cond.code yX11_takeTape cX11_takeTape 2 (some .int) ∈ m_gW := m_t (m_tb3 (List.mem_of_getElem? (i := 132) rfl)) rfl
theorem in_3_136 : Cond.code yX4_readsAll cX4_readsAll 5 (some .boolean) ∈ m_gW := m_t (m_tb3 (List.mem_of_getElem? (i := 136) rfl)) rfl
theorem in_3_140 : Cond.code yX3_clear cX3_clear 1 none ∈ m_gW := m_t (m_tb3 (List.mem_of_getElem? (i := 140) rfl)) rfl
theorem in_3_144 : Cond.code yX9_open cX9_open 5 none ∈ m_gW := m_t (m_tb3 (List.mem_of_getElem? (i := 144) rfl)) rfl
theorem in_3_147 : Cond.code yJ9_min_7cf53 cJ9_min_7cf53 2 (some .int) ∈ m_gW := m_t (m_tb3 (List.mem_of_getElem? (i := 147) rfl)) rfl
theorem in_3_151 : Cond.code yX9_readPiece cX9_readPiece 4 none ∈ m_gW := m_t (m_tb3 (List.mem_of_getElem? (i := 151) rfl)) rfl
theorem in_3_154 : Cond.code yX9_isLetter cX9_isLetter 1 (some .boolean) ∈ m_gW := m_t (m_tb3 (List.mem_of_getElem? (i := 154) rfl)) rfl
theorem in_3_157 : Cond.code yX9_isDigit cX9_isDigit 1 (some .boolean) ∈ m_gW := m_t (m_tb3 (List.mem_of_getElem? (i := 157) rfl)) rfl
theorem in_3_161 : Cond.code yX9_readLettersAndDigits cX9_readLettersAndDigits 8 none ∈ m_gW := m_t (m_tb3 (List.mem_of_getElem? (i := 161) rfl)) rfl
theorem in_3_165 : Cond.code yX9_keywordOf cX9_keywordOf 4 (some .int) ∈ m_gW := m_t (m_tb3 (List.mem_of_getElem? (i := 165) rfl)) rfl
theorem in_3_169 : Cond.code yX9_put cX9_put 5 none ∈ m_gW := m_t (m_tb3 (List.mem_of_getElem? (i := 169) rfl)) rfl
theorem in_3_173 : Cond.code yX9_advance cX9_advance 1 none ∈ m_gW := m_t (m_tb3 (List.mem_of_getElem? (i := 173) rfl)) rfl
theorem in_3_177 : Cond.code yX4_readsFun cX4_readsFun 1 (some .boolean) ∈ m_gW := m_t (m_tb3 (List.mem_of_getElem? (i := 177) rfl)) rfl
theorem in_3_181 : Cond.code yX4_latestFunIsBare cX4_latestFunIsBare 1 (some .boolean) ∈ m_gW := m_t (m_tb3 (List.mem_of_getElem? (i := 181) rfl)) rfl
theorem in_3_185 : Cond.code yX9_failsBy cX9_failsBy 2 (some .boolean) ∈ m_gW := m_t (m_tb3 (List.mem_of_getElem? (i := 185) rfl)) rfl
theorem in_3_190 : Cond.code yX3_funOf cX3_funOf 4 (some .int) ∈ m_gW := m_t (m_tb3 (List.mem_of_getElem? (i := 190) rfl)) rfl
theorem in_3_194 : Cond.code yX3_openFun cX3_openFun 3 none ∈ m_gW := m_t (m_tb3 (List.mem_of_getElem? (i := 194) rfl)) rfl
theorem in_3_198 : Cond.code yX4_readsParameters cX4_readsParameters 2 (some .boolean) ∈ m_gW := m_t (m_tb3 (List.mem_of_getElem? (i := 198) rfl)) rfl
theorem in_3_202 : Cond.code yX4_varOf cX4_varOf 4 (some .int) ∈ m_gW := m_t (m_tb3 (List.mem_of_getElem? (i := 202) rfl)) rfl
theorem in_3_206 : Cond.code yX4_addVar cX4_addVar 3 none ∈ m_gW := m_t (m_tb3 (List.mem_of_getElem? (i := 206) rfl)) rfl
theorem in_3_210 : Cond.code yX4_readsIs cX4_readsIs 3 (some .boolean) ∈ m_gW := m_t (m_tb3 (List.mem_of_getElem? (i := 210) rfl)) rfl
theorem in_3_214 : Cond.code yX9_takesKeyword cX9_takesKeyword 2 (some .boolean) ∈ m_gW := m_t (m_tb3 (List.mem_of_getElem? (i := 214) rfl)) rfl
theorem in_3_219 : Cond.code yX4_readsExpr cX4_readsExpr 2 (some .boolean) ∈ m_gW := m_t (m_tb3 (List.mem_of_getElem? (i := 219) rfl)) rfl
theorem in_3_223 : Cond.code yX4_takesVars cX4_takesVars 6 (some .boolean) ∈ m_gW := m_t (m_tb3 (List.mem_of_getElem? (i := 223) rfl)) rfl
theorem in_3_227 : Cond.code yX4_takesFun cX4_takesFun 3 (some .boolean) ∈ m_gW := m_t (m_tb3 (List.mem_of_getElem? (i := 227) rfl)) rfl
theorem in_3_231 : Cond.code yX3_argumentCount cX3_argumentCount 2 (some .int) ∈ m_gW := m_t (m_tb3 (List.mem_of_getElem? (i := 231) rfl)) rfl
theorem in_3_235 : Cond.code yX4_readsWhen cX4_readsWhen 4 (some .boolean) ∈ m_gW := m_t (m_tb3 (List.mem_of_getElem? (i := 235) rfl)) rfl
theorem in_3_239 : Cond.code yX3_closeLine cX3_closeLine 1 none ∈ m_gW := m_t (m_tb3 (List.mem_of_getElem? (i := 239) rfl)) rfl
theorem in_4_3 : Cond.code yX9_takesSign cX9_takesSign 2 (some .boolean) ∈ m_gW := m_t (m_tb4 (List.mem_of_getElem? (i := 3) rfl)) rfl
theorem in_4_7 : Cond.code yX5_findAll cX5_findAll 4 none ∈ m_gW := m_t (m_tb4 (List.mem_of_getElem? (i := 7) rfl)) rfl
theorem in_4_11 : Cond.code yX5_clear cX5_clear 2 none ∈ m_gW := m_t (m_tb4 (List.mem_of_getElem? (i := 11) rfl)) rfl
theorem in_4_16 : Cond.code yX5_joinLine cX5_joinLine 5 none ∈ m_gW := m_t (m_tb4 (List.mem_of_getElem? (i := 16) rfl)) rfl
theorem in_4_20 : Cond.code yX3_varOfLine cX3_varOfLine 3 (some .int) ∈ m_gW := m_t (m_tb4 (List.mem_of_getElem? (i := 20) rfl)) rfl
theorem in_4_23 : Cond.code yX5_nodeOf cX5_nodeOf 2 (some .int) ∈ m_gW := m_t (m_tb4 (List.mem_of_getElem? (i := 23) rfl)) rfl
theorem in_4_26 : Cond.code yX5_operandNode cX5_operandNode 4 (some .int) ∈ m_gW := m_t (m_tb4 (List.mem_of_getElem? (i := 26) rfl)) rfl
theorem in_4_30 : Cond.code yX3_operandAt cX3_operandAt 3 (some .int) ∈ m_gW := m_t (m_tb4 (List.mem_of_getElem? (i := 30) rfl)) rfl
theorem in_4_34 : Cond.code yX5_join cX5_join 9 none ∈ m_gW := m_t (m_tb4 (List.mem_of_getElem? (i := 34) rfl)) rfl
theorem in_4_38 : Cond.code yX5_rootOf cX5_rootOf 4 (some .int) ∈ m_gW := m_t (m_tb4 (List.mem_of_getElem? (i := 38) rfl)) rfl
theorem in_4_42 : Cond.code yX5_leftOf cX5_leftOf 2 (some .int) ∈ m_gW := m_t (m_tb4 (List.mem_of_getElem? (i := 42) rfl)) rfl
theorem in_4_46 : Cond.code yX5_rootWithRegion cX5_rootWithRegion 3 (some .int) ∈ m_gW := m_t (m_tb4 (List.mem_of_getElem? (i := 46) rfl)) rfl
theorem in_4_50 : Cond.code yX5_rightOf cX5_rightOf 2 (some .int) ∈ m_gW := m_t (m_tb4 (List.mem_of_getElem? (i := 50) rfl)) rfl
theorem in_4_54 : Cond.code yX5_joinCall cX5_joinCall 7 none ∈ m_gW := m_t (m_tb4 (List.mem_of_getElem? (i := 54) rfl)) rfl
theorem in_4_58 : Cond.code yX3_resultOf cX3_resultOf 2 (some .int) ∈ m_gW := m_t (m_tb4 (List.mem_of_getElem? (i := 58) rfl)) rfl
theorem in_4_62 : Cond.code yX3_varCount cX3_varCount 2 (some .int) ∈ m_gW := m_t (m_tb4 (List.mem_of_getElem? (i := 62) rfl)) rfl
theorem in_4_66 : Cond.code yX3_elseSlot cX3_elseSlot 2 (some .int) ∈ m_gW := m_t (m_tb4 (List.mem_of_getElem? (i := 66) rfl)) rfl
theorem in_4_71 : Cond.code yX5_numberAll cX5_numberAll 4 none ∈ m_gW := m_t (m_tb4 (List.mem_of_getElem? (i := 71) rfl)) rfl
theorem in_4_76 : Cond.code yX5_numberFrom cX5_numberFrom 5 none ∈ m_gW := m_t (m_tb4 (List.mem_of_getElem? (i := 76) rfl)) rfl
theorem in_4_80 : Cond.code yX5_tellAll cX5_tellAll 4 none ∈ m_gW := m_t (m_tb4 (List.mem_of_getElem? (i := 80) rfl)) rfl
theorem in_4_84 : Cond.code yX6_derive cX6_derive 4 none ∈ m_gW := m_t (m_tb4 (List.mem_of_getElem? (i := 84) rfl)) rfl
theorem in_4_88 : Cond.code yX6_closeReach cX6_closeReach 3 none ∈ m_gW := m_t (m_tb4 (List.mem_of_getElem? (i := 88) rfl)) rfl
theorem in_4_92 : Cond.code yX6_reachOf cX6_reachOf 2 (some .int) ∈ m_gW := m_t (m_tb4 (List.mem_of_getElem? (i := 92) rfl)) rfl
theorem in_4_96 : Cond.code yX6_has cX6_has 2 (some .boolean) ∈ m_gW := m_t (m_tb4 (List.mem_of_getElem? (i := 96) rfl)) rfl
theorem in_4_101 : Cond.code yX6_tellOwner cX6_tellOwner 7 none ∈ m_gW := m_t (m_tb4 (List.mem_of_getElem? (i := 101) rfl)) rfl
theorem in_4_106 : Cond.code yX6_pointedBy cX6_pointedBy 3 (some .int) ∈ m_gW := m_t (m_tb4 (List.mem_of_getElem? (i := 106) rfl)) rfl
theorem in_4_111 : Cond.code yX6_tellFilled cX6_tellFilled 5 none ∈ m_gW := m_t (m_tb4 (List.mem_of_getElem? (i := 111) rfl)) rfl
theorem in_4_116 : Cond.code yX6_isOwned cX6_isOwned 3 (some .boolean) ∈ m_gW := m_t (m_tb4 (List.mem_of_getElem? (i := 116) rfl)) rfl
theorem in_4_120 : Cond.code yX6_tellSpan cX6_tellSpan 7 none ∈ m_gW := m_t (m_tb4 (List.mem_of_getElem? (i := 120) rfl)) rfl
theorem in_4_124 : Cond.code yX6_reachOfLine cX6_reachOfLine 6 (some .int) ∈ m_gW := m_t (m_tb4 (List.mem_of_getElem? (i := 124) rfl)) rfl
theorem in_4_128 : Cond.code yX6_reachOfVar cX6_reachOfVar 3 (some .int) ∈ m_gW := m_t (m_tb4 (List.mem_of_getElem? (i := 128) rfl)) rfl
theorem in_4_132 : Cond.code yX3_operandCount cX3_operandCount 2 (some .int) ∈ m_gW := m_t (m_tb4 (List.mem_of_getElem? (i := 132) rfl)) rfl
theorem in_4_137 : Cond.code yX6_tellFinite cX6_tellFinite 5 none ∈ m_gW := m_t (m_tb4 (List.mem_of_getElem? (i := 137) rfl)) rfl
theorem in_4_140 : Cond.code yJ6_bitCount_0f7a4 cJ6_bitCount_0f7a4 1 (some .int) ∈ m_gW := m_t (m_tb4 (List.mem_of_getElem? (i := 140) rfl)) rfl
theorem in_4_147 : Cond.code yX3_copyFrom cX3_copyFrom 2 none ∈ m_gW := m_t (m_tb4 (List.mem_of_getElem? (i := 147) rfl)) rfl
theorem in_4_154 : Cond.code yX6_copyFrom cX6_copyFrom 2 none ∈ m_gW := m_t (m_tb4 (List.mem_of_getElem? (i := 154) rfl)) rfl
theorem in_4_159 : Cond.code yX2_clear cX2_clear 1 none ∈ m_gW := m_t (m_tb4 (List.mem_of_getElem? (i := 159) rfl)) rfl
theorem in_4_163 : Cond.code yX7_clear cX7_clear 1 none ∈ m_gW := m_t (m_tb4 (List.mem_of_getElem? (i := 163) rfl)) rfl
theorem in_4_167 : Cond.code yX0_clear cX0_clear 1 none ∈ m_gW := m_t (m_tb4 (List.mem_of_getElem? (i := 167) rfl)) rfl
theorem in_4_171 : Cond.code yX11_fault cX11_fault 1 (some .int) ∈ m_gW := m_t (m_tb4 (List.mem_of_getElem? (i := 171) rfl)) rfl
theorem in_4_175 : Cond.code yX11_points cX11_points 3 (some .int) ∈ m_gW := m_t (m_tb4 (List.mem_of_getElem? (i := 175) rfl)) rfl
theorem in_4_179 : Cond.code yX3_hasVar cX3_hasVar 3 (some .boolean) ∈ m_gW := m_t (m_tb4 (List.mem_of_getElem? (i := 179) rfl)) rfl
theorem in_4_183 : Cond.code yX3_hasFun cX3_hasFun 2 (some .boolean) ∈ m_gW := m_t (m_tb4 (List.mem_of_getElem? (i := 183) rfl)) rfl
theorem in_4_188 : Cond.code yX11_region cX11_region 4 (some .int) ∈ m_gW := m_t (m_tb4 (List.mem_of_getElem? (i := 188) rfl)) rfl
theorem in_4_193 : Cond.code yX6_isFinite cX6_isFinite 2 (some .boolean) ∈ m_gW := m_t (m_tb4 (List.mem_of_getElem? (i := 193) rfl)) rfl
theorem in_4_197 : Cond.code yX2_roomsOf cX2_roomsOf 4 (some .int) ∈ m_gW := m_t (m_tb4 (List.mem_of_getElem? (i := 197) rfl)) rfl
theorem in_4_201 : Cond.code yX2_cellsOf cX2_cellsOf 4 (some .int) ∈ m_gW := m_t (m_tb4 (List.mem_of_getElem? (i := 201) rfl)) rfl
theorem in_4_205 : Cond.code yX2_hasCell cX2_hasCell 2 (some .boolean) ∈ m_gW := m_t (m_tb4 (List.mem_of_getElem? (i := 205) rfl)) rfl
theorem in_4_209 : Cond.code yX2_regionOfCell cX2_regionOfCell 2 (some .int) ∈ m_gW := m_t (m_tb4 (List.mem_of_getElem? (i := 209) rfl)) rfl
theorem in_4_213 : Cond.code yX2_hasRoom cX2_hasRoom 2 (some .boolean) ∈ m_gW := m_t (m_tb4 (List.mem_of_getElem? (i := 213) rfl)) rfl
theorem in_4_217 : Cond.code yX11_span cX11_span 5 (some .int) ∈ m_gW := m_t (m_tb4 (List.mem_of_getElem? (i := 217) rfl)) rfl
theorem in_4_223 : Cond.code yX11_load cX11_load 1 (some .boolean) ∈ m_gW := m_t (m_tb4 (List.mem_of_getElem? (i := 223) rfl)) rfl
theorem in_4_227 : Cond.code yX11_fitsMain cX11_fitsMain 3 (some .boolean) ∈ m_gW := m_t (m_tb4 (List.mem_of_getElem? (i := 227) rfl)) rfl
theorem in_4_231 : Cond.code yX0_keep cX0_keep 3 none ∈ m_gW := m_t (m_tb4 (List.mem_of_getElem? (i := 231) rfl)) rfl
theorem in_4_236 : Cond.code yX2_copyFrom cX2_copyFrom 2 none ∈ m_gW := m_t (m_tb4 (List.mem_of_getElem? (i := 236) rfl)) rfl
theorem in_5_1 : Cond.code yX11_beginWithTape cX11_beginWithTape 4 none ∈ m_gW := m_t (m_tb5 (List.mem_of_getElem? (i := 1) rfl)) rfl
theorem in_5_5 : Cond.code yX2_begin cX2_begin 2 none ∈ m_gW := m_t (m_tb5 (List.mem_of_getElem? (i := 5) rfl)) rfl
theorem in_5_10 : Cond.code yX2_makeRooms cX2_makeRooms 3 none ∈ m_gW := m_t (m_tb5 (List.mem_of_getElem? (i := 10) rfl)) rfl
theorem in_5_14 : Cond.code yX2_openFrame cX2_openFrame 4 none ∈ m_gW := m_t (m_tb5 (List.mem_of_getElem? (i := 14) rfl)) rfl
theorem in_5_18 : Cond.code yX2_setVar cX2_setVar 5 none ∈ m_gW := m_t (m_tb5 (List.mem_of_getElem? (i := 18) rfl)) rfl
theorem in_5_22 : Cond.code yX3_parametersOfMain cX3_parametersOfMain 1 (some .int) ∈ m_gW := m_t (m_tb5 (List.mem_of_getElem? (i := 22) rfl)) rfl
theorem in_5_27 : Cond.code yX11_steps cX11_steps 4 (some .int) ∈ m_gW := m_t (m_tb5 (List.mem_of_getElem? (i := 27) rfl)) rfl
theorem in_5_31 : Cond.code yX2_makeStep cX2_makeStep 5 none ∈ m_gW := m_t (m_tb5 (List.mem_of_getElem? (i := 31) rfl)) rfl
theorem in_5_35 : Cond.code yX2_stopReason cX2_stopReason 5 (some .int) ∈ m_gW := m_t (m_tb5 (List.mem_of_getElem? (i := 35) rfl)) rfl
theorem in_5_39 : Cond.code yX2_kindAt cX2_kindAt 4 (some .int) ∈ m_gW := m_t (m_tb5 (List.mem_of_getElem? (i := 39) rfl)) rfl
theorem in_5_44 : Cond.code yX2_hasPairForNumber cX2_hasPairForNumber 3 (some .boolean) ∈ m_gW := m_t (m_tb5 (List.mem_of_getElem? (i := 44) rfl)) rfl
theorem in_5_48 : Cond.code yX3_conditionSlot cX3_conditionSlot 2 (some .int) ∈ m_gW := m_t (m_tb5 (List.mem_of_getElem? (i := 48) rfl)) rfl
theorem in_5_52 : Cond.code yX2_callsNow cX2_callsNow 3 (some .boolean) ∈ m_gW := m_t (m_tb5 (List.mem_of_getElem? (i := 52) rfl)) rfl
theorem in_5_56 : Cond.code yX2_valueAt cX2_valueAt 4 (some .int) ∈ m_gW := m_t (m_tb5 (List.mem_of_getElem? (i := 56) rfl)) rfl
theorem in_5_60 : Cond.code yX3_leavesBy cX3_leavesBy 3 (some .boolean) ∈ m_gW := m_t (m_tb5 (List.mem_of_getElem? (i := 60) rfl)) rfl
theorem in_5_64 : Cond.code yX2_callBy cX2_callBy 5 none ∈ m_gW := m_t (m_tb5 (List.mem_of_getElem? (i := 64) rfl)) rfl
theorem in_5_69 : Cond.code yX2_moveFrame cX2_moveFrame 3 none ∈ m_gW := m_t (m_tb5 (List.mem_of_getElem? (i := 69) rfl)) rfl
theorem in_5_73 : Cond.code yX2_work cX2_work 4 none ∈ m_gW := m_t (m_tb5 (List.mem_of_getElem? (i := 73) rfl)) rfl
theorem in_5_77 : Cond.code yX2_give cX2_give 3 none ∈ m_gW := m_t (m_tb5 (List.mem_of_getElem? (i := 77) rfl)) rfl
theorem in_5_81 : Cond.code yX2_layCell cX2_layCell 7 (some .int) ∈ m_gW := m_t (m_tb5 (List.mem_of_getElem? (i := 81) rfl)) rfl
theorem in_5_85 : Cond.code yX2_freeCell cX2_freeCell 2 (some .int) ∈ m_gW := m_t (m_tb5 (List.mem_of_getElem? (i := 85) rfl)) rfl
theorem in_5_91 : Cond.code yX2_latestRoom cX2_latestRoom 3 (some .int) ∈ m_gW := m_t (m_tb5 (List.mem_of_getElem? (i := 91) rfl)) rfl
theorem in_5_96 : Cond.code yX2_giveSide cX2_giveSide 4 none ∈ m_gW := m_t (m_tb5 (List.mem_of_getElem? (i := 96) rfl)) rfl
theorem in_5_100 : Cond.code yX2_giveVar cX2_giveVar 4 none ∈ m_gW := m_t (m_tb5 (List.mem_of_getElem? (i := 100) rfl)) rfl
theorem in_5_105 : Cond.code yX2_settle cX2_settle 5 none ∈ m_gW := m_t (m_tb5 (List.mem_of_getElem? (i := 105) rfl)) rfl
theorem in_5_109 : Cond.code yX2_freeRooms cX2_freeRooms 6 none ∈ m_gW := m_t (m_tb5 (List.mem_of_getElem? (i := 109) rfl)) rfl
theorem in_5_113 : Cond.code yX2_freeRoom cX2_freeRoom 3 none ∈ m_gW := m_t (m_tb5 (List.mem_of_getElem? (i := 113) rfl)) rfl
theorem in_5_119 : Cond.code yX11_now cX11_now 3 (some .int) ∈ m_gW := m_t (m_tb5 (List.mem_of_getElem? (i := 119) rfl)) rfl
theorem in_5_123 : Cond.code yX2_latestFun cX2_latestFun 1 (some .int) ∈ m_gW := m_t (m_tb5 (List.mem_of_getElem? (i := 123) rfl)) rfl
theorem in_5_127 : Cond.code yX2_latestLine cX2_latestLine 1 (some .int) ∈ m_gW := m_t (m_tb5 (List.mem_of_getElem? (i := 127) rfl)) rfl
theorem in_5_131 : Cond.code yX11_kind cX11_kind 3 (some .int) ∈ m_gW := m_t (m_tb5 (List.mem_of_getElem? (i := 131) rfl)) rfl
theorem in_5_135 : Cond.code yX2_hasVar cX2_hasVar 4 (some .boolean) ∈ m_gW := m_t (m_tb5 (List.mem_of_getElem? (i := 135) rfl)) rfl
theorem in_5_140 : Cond.code yX11_cell cX11_cell 3 (some .int) ∈ m_gW := m_t (m_tb5 (List.mem_of_getElem? (i := 140) rfl)) rfl
theorem in_5_146 : Cond.code yX11_gave cX11_gave 1 (some .int) ∈ m_gW := m_t (m_tb5 (List.mem_of_getElem? (i := 146) rfl)) rfl
theorem in_5_150 : Cond.code yX2_resultKind cX2_resultKind 1 (some .int) ∈ m_gW := m_t (m_tb5 (List.mem_of_getElem? (i := 150) rfl)) rfl
theorem in_5_154 : Cond.code yX11_room cX11_room 2 (some .int) ∈ m_gW := m_t (m_tb5 (List.mem_of_getElem? (i := 154) rfl)) rfl
theorem in_5_159 : Cond.code yX11_roomful cX11_roomful 2 (some .int) ∈ m_gW := m_t (m_tb5 (List.mem_of_getElem? (i := 159) rfl)) rfl
theorem in_5_163 : Cond.code yX2_cellsIn cX2_cellsIn 4 (some .int) ∈ m_gW := m_t (m_tb5 (List.mem_of_getElem? (i := 163) rfl)) rfl
theorem in_5_167 : Cond.code yX11_reached cX11_reached 1 (some .int) ∈ m_gW := m_t (m_tb5 (List.mem_of_getElem? (i := 167) rfl)) rfl
theorem in_5_171 : Cond.code yX1_countReached cX1_countReached 6 (some .int) ∈ m_gW := m_t (m_tb5 (List.mem_of_getElem? (i := 171) rfl)) rfl
theorem in_5_176 : Cond.code yX1_come cX1_come 4 none ∈ m_gW := m_t (m_tb5 (List.mem_of_getElem? (i := 176) rfl)) rfl
theorem in_5_182 : Cond.code yX11_isReached cX11_isReached 2 (some .int) ∈ m_gW := m_t (m_tb5 (List.mem_of_getElem? (i := 182) rfl)) rfl
theorem in_5_186 : Cond.code yX11_drag cX11_drag 1 (some .int) ∈ m_gW := m_t (m_tb5 (List.mem_of_getElem? (i := 186) rfl)) rfl
theorem in_5_190 : Cond.code yX11_run cX11_run 3 (some .int) ∈ m_gW := m_t (m_tb5 (List.mem_of_getElem? (i := 190) rfl)) rfl
theorem in_5_195 : Cond.code yX11_tellRan cX11_tellRan 2 none ∈ m_gW := m_t (m_tb5 (List.mem_of_getElem? (i := 195) rfl)) rfl
theorem in_5_199 : Cond.code yX11_ran cX11_ran 2 (some .int) ∈ m_gW := m_t (m_tb5 (List.mem_of_getElem? (i := 199) rfl)) rfl
theorem in_5_203 : Cond.code yX11_odds cX11_odds 5 (some .int) ∈ m_gW := m_t (m_tb5 (List.mem_of_getElem? (i := 203) rfl)) rfl
theorem in_5_207 : Cond.code yX11_endsByDraws cX11_endsByDraws 5 (some .boolean) ∈ m_gW := m_t (m_tb5 (List.mem_of_getElem? (i := 207) rfl)) rfl
theorem in_5_212 : Cond.code yX11_undo cX11_undo 1 (some .int) ∈ m_gW := m_t (m_tb5 (List.mem_of_getElem? (i := 212) rfl)) rfl
theorem in_5_216 : Cond.code yX0_takeBack cX0_takeBack 3 (some .int) ∈ m_gW := m_t (m_tb5 (List.mem_of_getElem? (i := 216) rfl)) rfl
theorem in_5_220 : Cond.code yX11_sentence cX11_sentence 2 (some .int) ∈ m_gW := m_t (m_tb5 (List.mem_of_getElem? (i := 220) rfl)) rfl
theorem in_5_224 : Cond.code yX8_readsAll cX8_readsAll 4 (some .boolean) ∈ m_gW := m_t (m_tb5 (List.mem_of_getElem? (i := 224) rfl)) rfl
theorem in_5_230 : Cond.code yX8_readsCond cX8_readsCond 4 (some .boolean) ∈ m_gW := m_t (m_tb5 (List.mem_of_getElem? (i := 230) rfl)) rfl
theorem in_5_234 : Cond.code yX8_readsParts cX8_readsParts 4 (some .boolean) ∈ m_gW := m_t (m_tb5 (List.mem_of_getElem? (i := 234) rfl)) rfl
theorem in_5_238 : Cond.code yX8_readsOne cX8_readsOne 5 (some .boolean) ∈ m_gW := m_t (m_tb5 (List.mem_of_getElem? (i := 238) rfl)) rfl
theorem in_6_5 : Cond.code yX7_put cX7_put 4 (some .boolean) ∈ m_gW := m_t (m_tb6 (List.mem_of_getElem? (i := 5) rfl)) rfl
theorem in_6_9 : Cond.code yX8_readsFunOf cX8_readsFunOf 4 (some .boolean) ∈ m_gW := m_t (m_tb6 (List.mem_of_getElem? (i := 9) rfl)) rfl
theorem in_6_14 : Cond.code yX8_readsMeasure cX8_readsMeasure 4 (some .boolean) ∈ m_gW := m_t (m_tb6 (List.mem_of_getElem? (i := 14) rfl)) rfl
theorem in_6_18 : Cond.code yX7_copyFrom cX7_copyFrom 2 none ∈ m_gW := m_t (m_tb6 (List.mem_of_getElem? (i := 18) rfl)) rfl
theorem in_6_23 : Cond.code yX11_said cX11_said 4 (some .int) ∈ m_gW := m_t (m_tb6 (List.mem_of_getElem? (i := 23) rfl)) rfl
theorem in_6_27 : Cond.code yX7_holds cX7_holds 9 (some .boolean) ∈ m_gW := m_t (m_tb6 (List.mem_of_getElem? (i := 27) rfl)) rfl
theorem in_6_31 : Cond.code yX7_isTrue cX7_isTrue 5 (some .boolean) ∈ m_gW := m_t (m_tb6 (List.mem_of_getElem? (i := 31) rfl)) rfl
theorem in_6_38 : Cond.code yX7_fits cX7_fits 3 (some .boolean) ∈ m_gW := m_t (m_tb6 (List.mem_of_getElem? (i := 38) rfl)) rfl
theorem in_6_42 : Cond.code yX11_image cX11_image 2 (some .boolean) ∈ m_gW := m_t (m_tb6 (List.mem_of_getElem? (i := 42) rfl)) rfl
theorem in_6_46 : Cond.code yX10_copyFrom cX10_copyFrom 2 none ∈ m_gW := m_t (m_tb6 (List.mem_of_getElem? (i := 46) rfl)) rfl
theorem in_6_53 : Cond.code yX11_restore cX11_restore 2 (some .boolean) ∈ m_gW := m_t (m_tb6 (List.mem_of_getElem? (i := 53) rfl)) rfl
theorem in_6_57 : Cond.code yX11_count cX11_count 2 (some .int) ∈ m_gW := m_t (m_tb6 (List.mem_of_getElem? (i := 57) rfl)) rfl
theorem in_6_66 : Cond.code yX11_fun cX11_fun 4 (some .int) ∈ m_gW := m_t (m_tb6 (List.mem_of_getElem? (i := 66) rfl)) rfl
theorem in_6_131 : Cond.code yX3_calledBy cX3_calledBy 4 (some .int) ∈ m_gW := m_t (m_tb6 (List.mem_of_getElem? (i := 131) rfl)) rfl
theorem in_6_135 : Cond.code yX3_isCall cX3_isCall 2 (some .boolean) ∈ m_gW := m_t (m_tb6 (List.mem_of_getElem? (i := 135) rfl)) rfl
theorem in_6_139 : Cond.code yX3_endsWithLeavingCall cX3_endsWithLeavingCall 3 (some .boolean) ∈ m_gW := m_t (m_tb6 (List.mem_of_getElem? (i := 139) rfl)) rfl
theorem in_6_147 : Cond.code yX11_value cX11_value 3 (some .int) ∈ m_gW := m_t (m_tb6 (List.mem_of_getElem? (i := 147) rfl)) rfl
theorem in_6_154 : Cond.code yX11_in cX11_in 3 (some .int) ∈ m_gW := m_t (m_tb6 (List.mem_of_getElem? (i := 154) rfl)) rfl
theorem in_6_161 : Cond.code yX11_result cX11_result 1 (some .int) ∈ m_gW := m_t (m_tb6 (List.mem_of_getElem? (i := 161) rfl)) rfl
theorem in_6_165 : Cond.code yX12_thrown cX12_thrown 1 (some .int) ∈ m_gW := m_t (m_tb6 (List.mem_of_getElem? (i := 165) rfl)) rfl
theorem in_6_169 : Cond.code yX12_feed cX12_feed 6 (some .int) ∈ m_gW := m_t (m_tb6 (List.mem_of_getElem? (i := 169) rfl)) rfl
theorem in_6_174 : Cond.code yX12_come cX12_come 3 none ∈ m_gW := m_t (m_tb6 (List.mem_of_getElem? (i := 174) rfl)) rfl
theorem in_6_178 : Cond.code yX12_end cX12_end 2 (some .boolean) ∈ m_gW := m_t (m_tb6 (List.mem_of_getElem? (i := 178) rfl)) rfl
theorem in_6_182 : Cond.code yX12_init cX12_init 1 none ∈ m_gW := m_t (m_tb6 (List.mem_of_getElem? (i := 182) rfl)) rfl
theorem in_6_187 : Cond.code yX12_startSo cX12_startSo 2 none ∈ m_gW := m_t (m_tb6 (List.mem_of_getElem? (i := 187) rfl)) rfl
theorem in_6_191 : Cond.code yX12_layRegions cX12_layRegions 3 none ∈ m_gW := m_t (m_tb6 (List.mem_of_getElem? (i := 191) rfl)) rfl
theorem in_6_195 : Cond.code yX12_joinLine cX12_joinLine 8 none ∈ m_gW := m_t (m_tb6 (List.mem_of_getElem? (i := 195) rfl)) rfl
theorem in_6_199 : Cond.code yX12_madeBy cX12_madeBy 3 (some .int) ∈ m_gW := m_t (m_tb6 (List.mem_of_getElem? (i := 199) rfl)) rfl
theorem in_6_203 : Cond.code yX12_node cX12_node 3 (some .int) ∈ m_gW := m_t (m_tb6 (List.mem_of_getElem? (i := 203) rfl)) rfl
theorem in_6_207 : Cond.code yX12_var cX12_var 3 (some .int) ∈ m_gW := m_t (m_tb6 (List.mem_of_getElem? (i := 207) rfl)) rfl
theorem in_6_211 : Cond.code yX12_join cX12_join 7 none ∈ m_gW := m_t (m_tb6 (List.mem_of_getElem? (i := 211) rfl)) rfl
theorem in_6_215 : Cond.code yX12_topOf cX12_topOf 3 (some .int) ∈ m_gW := m_t (m_tb6 (List.mem_of_getElem? (i := 215) rfl)) rfl
theorem in_6_219 : Cond.code yX12_sideNode cX12_sideNode 3 (some .int) ∈ m_gW := m_t (m_tb6 (List.mem_of_getElem? (i := 219) rfl)) rfl
theorem in_6_223 : Cond.code yX12_pointFrom cX12_pointFrom 3 (some .int) ∈ m_gW := m_t (m_tb6 (List.mem_of_getElem? (i := 223) rfl)) rfl
theorem in_6_227 : Cond.code yX12_varsOf cX12_varsOf 3 (some .int) ∈ m_gW := m_t (m_tb6 (List.mem_of_getElem? (i := 227) rfl)) rfl
theorem in_6_231 : Cond.code yX12_numberFrom cX12_numberFrom 3 none ∈ m_gW := m_t (m_tb6 (List.mem_of_getElem? (i := 231) rfl)) rfl
theorem in_6_235 : Cond.code yX12_numbered cX12_numbered 3 (some .int) ∈ m_gW := m_t (m_tb6 (List.mem_of_getElem? (i := 235) rfl)) rfl
theorem in_6_239 : Cond.code yX12_reachFrom cX12_reachFrom 6 (some .int) ∈ m_gW := m_t (m_tb6 (List.mem_of_getElem? (i := 239) rfl)) rfl
theorem in_7_2 : Cond.code yX12_has cX12_has 2 (some .boolean) ∈ m_gW := m_t (m_tb7 (List.mem_of_getElem? (i := 2) rfl)) rfl
theorem in_7_6 : Cond.code yX12_layFun cX12_layFun 6 none ∈ m_gW := m_t (m_tb7 (List.mem_of_getElem? (i := 6) rfl)) rfl
theorem in_7_10 : Cond.code yX12_laySpans cX12_laySpans 5 none ∈ m_gW := m_t (m_tb7 (List.mem_of_getElem? (i := 10) rfl)) rfl
theorem in_7_14 : Cond.code yX12_reachIn cX12_reachIn 5 (some .int) ∈ m_gW := m_t (m_tb7 (List.mem_of_getElem? (i := 14) rfl)) rfl
theorem in_7_172 : Cond.code yX12_program cX12_program 3 (some .int) ∈ m_gW := m_t (m_tb7 (List.mem_of_getElem? (i := 172) rfl)) rfl
theorem in_7_176 : Cond.code yX12_begin cX12_begin 2 none ∈ m_gW := m_t (m_tb7 (List.mem_of_getElem? (i := 176) rfl)) rfl
theorem in_7_180 : Cond.code yX12_take cX12_take 2 (some .int) ∈ m_gW := m_t (m_tb7 (List.mem_of_getElem? (i := 180) rfl)) rfl
theorem in_7_184 : Cond.code yX12_go cX12_go 5 none ∈ m_gW := m_t (m_tb7 (List.mem_of_getElem? (i := 184) rfl)) rfl
theorem in_7_187 : Cond.code yX12_isLetter cX12_isLetter 1 (some .boolean) ∈ m_gW := m_t (m_tb7 (List.mem_of_getElem? (i := 187) rfl)) rfl
theorem in_7_190 : Cond.code yX12_isDigit cX12_isDigit 1 (some .boolean) ∈ m_gW := m_t (m_tb7 (List.mem_of_getElem? (i := 190) rfl)) rfl
theorem in_7_194 : Cond.code yX12_tapeAt cX12_tapeAt 2 (some .int) ∈ m_gW := m_t (m_tb7 (List.mem_of_getElem? (i := 194) rfl)) rfl
theorem in_7_200 : Cond.code yX12_isWord cX12_isWord 2 (some .boolean) ∈ m_gW := m_t (m_tb7 (List.mem_of_getElem? (i := 200) rfl)) rfl
theorem in_7_203 : Cond.code yX12_wordOf cX12_wordOf 1 (some .long) ∈ m_gW := m_t (m_tb7 (List.mem_of_getElem? (i := 203) rfl)) rfl
theorem in_7_206 : Cond.code yX12_spelt cX12_spelt 8 (some .long) ∈ m_gW := m_t (m_tb7 (List.mem_of_getElem? (i := 206) rfl)) rfl
theorem in_7_210 : Cond.code yX12_readFun cX12_readFun 1 (some .boolean) ∈ m_gW := m_t (m_tb7 (List.mem_of_getElem? (i := 210) rfl)) rfl
theorem in_7_214 : Cond.code yX12_isBare cX12_isBare 1 (some .boolean) ∈ m_gW := m_t (m_tb7 (List.mem_of_getElem? (i := 214) rfl)) rfl
theorem in_7_218 : Cond.code yX12_funNow cX12_funNow 1 (some .int) ∈ m_gW := m_t (m_tb7 (List.mem_of_getElem? (i := 218) rfl)) rfl
theorem in_7_222 : Cond.code yX12_bad cX12_bad 2 (some .boolean) ∈ m_gW := m_t (m_tb7 (List.mem_of_getElem? (i := 222) rfl)) rfl
theorem in_7_226 : Cond.code yX12_isName cX12_isName 2 (some .boolean) ∈ m_gW := m_t (m_tb7 (List.mem_of_getElem? (i := 226) rfl)) rfl
theorem in_7_229 : Cond.code yX12_findIn cX12_findIn 6 (some .int) ∈ m_gW := m_t (m_tb7 (List.mem_of_getElem? (i := 229) rfl)) rfl
theorem in_7_233 : Cond.code yX12_readParameter cX12_readParameter 2 (some .boolean) ∈ m_gW := m_t (m_tb7 (List.mem_of_getElem? (i := 233) rfl)) rfl
theorem in_7_237 : Cond.code yX12_findVar cX12_findVar 1 (some .int) ∈ m_gW := m_t (m_tb7 (List.mem_of_getElem? (i := 237) rfl)) rfl
theorem in_8_1 : Cond.code yX12_readIs cX12_readIs 6 (some .boolean) ∈ m_gW := m_t (m_tb8 (List.mem_of_getElem? (i := 1) rfl)) rfl
theorem in_8_5 : Cond.code yX12_readExpr cX12_readExpr 4 (some .boolean) ∈ m_gW := m_t (m_tb8 (List.mem_of_getElem? (i := 5) rfl)) rfl
theorem in_8_9 : Cond.code yX12_readVar cX12_readVar 4 (some .boolean) ∈ m_gW := m_t (m_tb8 (List.mem_of_getElem? (i := 9) rfl)) rfl
theorem in_8_13 : Cond.code yX12_readVars cX12_readVars 5 (some .boolean) ∈ m_gW := m_t (m_tb8 (List.mem_of_getElem? (i := 13) rfl)) rfl
theorem in_8_17 : Cond.code yX12_readCalled cX12_readCalled 4 (some .boolean) ∈ m_gW := m_t (m_tb8 (List.mem_of_getElem? (i := 17) rfl)) rfl
theorem in_8_21 : Cond.code yX12_readWhen cX12_readWhen 2 (some .boolean) ∈ m_gW := m_t (m_tb8 (List.mem_of_getElem? (i := 21) rfl)) rfl
theorem in_8_25 : Cond.code yX12_readEnd cX12_readEnd 1 (some .boolean) ∈ m_gW := m_t (m_tb8 (List.mem_of_getElem? (i := 25) rfl)) rfl
theorem in_8_29 : Cond.code yX12_isSign cX12_isSign 2 (some .boolean) ∈ m_gW := m_t (m_tb8 (List.mem_of_getElem? (i := 29) rfl)) rfl
theorem in_8_33 : Cond.code yX12_fault cX12_fault 1 (some .int) ∈ m_gW := m_t (m_tb8 (List.mem_of_getElem? (i := 33) rfl)) rfl
theorem in_8_37 : Cond.code yX12_fun cX12_fun 3 (some .int) ∈ m_gW := m_t (m_tb8 (List.mem_of_getElem? (i := 37) rfl)) rfl
theorem in_8_41 : Cond.code yX12_isFun cX12_isFun 2 (some .boolean) ∈ m_gW := m_t (m_tb8 (List.mem_of_getElem? (i := 41) rfl)) rfl
theorem in_8_44 : Cond.code yX12_isIn cX12_isIn 3 (some .boolean) ∈ m_gW := m_t (m_tb8 (List.mem_of_getElem? (i := 44) rfl)) rfl
theorem in_8_48 : Cond.code yX12_refuse cX12_refuse 1 (some .int) ∈ m_gW := m_t (m_tb8 (List.mem_of_getElem? (i := 48) rfl)) rfl
theorem in_8_52 : Cond.code yX12_calledBy cX12_calledBy 4 (some .int) ∈ m_gW := m_t (m_tb8 (List.mem_of_getElem? (i := 52) rfl)) rfl
theorem in_8_56 : Cond.code yX12_isLeft cX12_isLeft 4 (some .boolean) ∈ m_gW := m_t (m_tb8 (List.mem_of_getElem? (i := 56) rfl)) rfl
theorem in_8_60 : Cond.code yX12_points cX12_points 3 (some .int) ∈ m_gW := m_t (m_tb8 (List.mem_of_getElem? (i := 60) rfl)) rfl
theorem in_8_64 : Cond.code yX12_region cX12_region 3 (some .int) ∈ m_gW := m_t (m_tb8 (List.mem_of_getElem? (i := 64) rfl)) rfl
theorem in_8_68 : Cond.code yX12_isRegion cX12_isRegion 2 (some .boolean) ∈ m_gW := m_t (m_tb8 (List.mem_of_getElem? (i := 68) rfl)) rfl
theorem in_8_72 : Cond.code yX12_ownersOf cX12_ownersOf 4 (some .int) ∈ m_gW := m_t (m_tb8 (List.mem_of_getElem? (i := 72) rfl)) rfl
theorem in_8_76 : Cond.code yX12_isFinite cX12_isFinite 2 (some .boolean) ∈ m_gW := m_t (m_tb8 (List.mem_of_getElem? (i := 76) rfl)) rfl
theorem in_8_80 : Cond.code yX12_isOuter cX12_isOuter 2 (some .boolean) ∈ m_gW := m_t (m_tb8 (List.mem_of_getElem? (i := 80) rfl)) rfl
theorem in_8_84 : Cond.code yX12_mainFun cX12_mainFun 1 (some .int) ∈ m_gW := m_t (m_tb8 (List.mem_of_getElem? (i := 84) rfl)) rfl
theorem in_8_87 : Cond.code yX12_bits cX12_bits 3 (some .int) ∈ m_gW := m_t (m_tb8 (List.mem_of_getElem? (i := 87) rfl)) rfl
theorem in_8_91 : Cond.code yX12_roomsOf cX12_roomsOf 4 (some .int) ∈ m_gW := m_t (m_tb8 (List.mem_of_getElem? (i := 91) rfl)) rfl
theorem in_8_95 : Cond.code yX12_cellsOf cX12_cellsOf 4 (some .int) ∈ m_gW := m_t (m_tb8 (List.mem_of_getElem? (i := 95) rfl)) rfl
theorem in_8_99 : Cond.code yX12_span cX12_span 4 (some .int) ∈ m_gW := m_t (m_tb8 (List.mem_of_getElem? (i := 99) rfl)) rfl
theorem in_8_103 : Cond.code yX12_undo cX12_undo 1 (some .int) ∈ m_gW := m_t (m_tb8 (List.mem_of_getElem? (i := 103) rfl)) rfl
theorem in_8_107 : Cond.code yX12_comeBack cX12_comeBack 4 none ∈ m_gW := m_t (m_tb8 (List.mem_of_getElem? (i := 107) rfl)) rfl
theorem in_8_111 : Cond.code yX12_load cX12_load 1 (some .boolean) ∈ m_gW := m_t (m_tb8 (List.mem_of_getElem? (i := 111) rfl)) rfl
theorem in_8_115 : Cond.code yX12_canLoad cX12_canLoad 2 (some .boolean) ∈ m_gW := m_t (m_tb8 (List.mem_of_getElem? (i := 115) rfl)) rfl
theorem in_8_119 : Cond.code yX12_snap cX12_snap 2 none ∈ m_gW := m_t (m_tb8 (List.mem_of_getElem? (i := 119) rfl)) rfl
theorem in_8_123 : Cond.code yX12_save cX12_save 4 none ∈ m_gW := m_t (m_tb8 (List.mem_of_getElem? (i := 123) rfl)) rfl
theorem in_8_127 : Cond.code yX12_loads cX12_loads 3 none ∈ m_gW := m_t (m_tb8 (List.mem_of_getElem? (i := 127) rfl)) rfl
theorem in_8_131 : Cond.code yX12_makeRoom cX12_makeRoom 2 none ∈ m_gW := m_t (m_tb8 (List.mem_of_getElem? (i := 131) rfl)) rfl
theorem in_8_135 : Cond.code yX12_pushFrame cX12_pushFrame 4 none ∈ m_gW := m_t (m_tb8 (List.mem_of_getElem? (i := 135) rfl)) rfl
theorem in_8_139 : Cond.code yX12_setVar cX12_setVar 5 none ∈ m_gW := m_t (m_tb8 (List.mem_of_getElem? (i := 139) rfl)) rfl
theorem in_8_143 : Cond.code yX12_slot cX12_slot 3 (some .int) ∈ m_gW := m_t (m_tb8 (List.mem_of_getElem? (i := 143) rfl)) rfl
theorem in_8_147 : Cond.code yX12_steps cX12_steps 3 (some .int) ∈ m_gW := m_t (m_tb8 (List.mem_of_getElem? (i := 147) rfl)) rfl
theorem in_8_151 : Cond.code yX12_oneStep cX12_oneStep 4 none ∈ m_gW := m_t (m_tb8 (List.mem_of_getElem? (i := 151) rfl)) rfl
theorem in_8_155 : Cond.code yX12_funOf cX12_funOf 2 (some .int) ∈ m_gW := m_t (m_tb8 (List.mem_of_getElem? (i := 155) rfl)) rfl
theorem in_8_159 : Cond.code yX12_whyStop cX12_whyStop 3 (some .int) ∈ m_gW := m_t (m_tb8 (List.mem_of_getElem? (i := 159) rfl)) rfl
theorem in_8_163 : Cond.code yX12_lineOf cX12_lineOf 2 (some .int) ∈ m_gW := m_t (m_tb8 (List.mem_of_getElem? (i := 163) rfl)) rfl
theorem in_8_167 : Cond.code yX12_kindAt cX12_kindAt 3 (some .int) ∈ m_gW := m_t (m_tb8 (List.mem_of_getElem? (i := 167) rfl)) rfl
theorem in_8_171 : Cond.code yX12_calls cX12_calls 3 (some .boolean) ∈ m_gW := m_t (m_tb8 (List.mem_of_getElem? (i := 171) rfl)) rfl
theorem in_8_175 : Cond.code yX12_valueAt cX12_valueAt 3 (some .int) ∈ m_gW := m_t (m_tb8 (List.mem_of_getElem? (i := 175) rfl)) rfl
theorem in_8_179 : Cond.code yX12_goesAhead cX12_goesAhead 2 (some .boolean) ∈ m_gW := m_t (m_tb8 (List.mem_of_getElem? (i := 179) rfl)) rfl
theorem in_8_183 : Cond.code yX12_does cX12_does 4 none ∈ m_gW := m_t (m_tb8 (List.mem_of_getElem? (i := 183) rfl)) rfl
theorem in_8_187 : Cond.code yX12_gives cX12_gives 8 none ∈ m_gW := m_t (m_tb8 (List.mem_of_getElem? (i := 187) rfl)) rfl
theorem in_8_191 : Cond.code yX12_frees cX12_frees 5 none ∈ m_gW := m_t (m_tb8 (List.mem_of_getElem? (i := 191) rfl)) rfl
theorem in_8_195 : Cond.code yX12_latestRoom cX12_latestRoom 3 (some .int) ∈ m_gW := m_t (m_tb8 (List.mem_of_getElem? (i := 195) rfl)) rfl
theorem in_8_199 : Cond.code yX12_freeRoom cX12_freeRoom 3 none ∈ m_gW := m_t (m_tb8 (List.mem_of_getElem? (i := 199) rfl)) rfl
theorem in_8_203 : Cond.code yX12_givesAt cX12_givesAt 3 none ∈ m_gW := m_t (m_tb8 (List.mem_of_getElem? (i := 203) rfl)) rfl
theorem in_8_207 : Cond.code yX12_layCell cX12_layCell 6 (some .int) ∈ m_gW := m_t (m_tb8 (List.mem_of_getElem? (i := 207) rfl)) rfl
theorem in_8_211 : Cond.code yX12_callsFun cX12_callsFun 6 none ∈ m_gW := m_t (m_tb8 (List.mem_of_getElem? (i := 211) rfl)) rfl
theorem in_8_215 : Cond.code yX12_now cX12_now 3 (some .int) ∈ m_gW := m_t (m_tb8 (List.mem_of_getElem? (i := 215) rfl)) rfl
theorem in_8_219 : Cond.code yX12_kind cX12_kind 3 (some .int) ∈ m_gW := m_t (m_tb8 (List.mem_of_getElem? (i := 219) rfl)) rfl
theorem in_8_223 : Cond.code yX12_isVar cX12_isVar 3 (some .boolean) ∈ m_gW := m_t (m_tb8 (List.mem_of_getElem? (i := 223) rfl)) rfl
theorem in_8_227 : Cond.code yX12_value cX12_value 3 (some .int) ∈ m_gW := m_t (m_tb8 (List.mem_of_getElem? (i := 227) rfl)) rfl
theorem in_8_231 : Cond.code yX12_cell cX12_cell 3 (some .int) ∈ m_gW := m_t (m_tb8 (List.mem_of_getElem? (i := 231) rfl)) rfl
theorem in_8_235 : Cond.code yX12_isCell cX12_isCell 2 (some .boolean) ∈ m_gW := m_t (m_tb8 (List.mem_of_getElem? (i := 235) rfl)) rfl
theorem in_8_239 : Cond.code yX12_in cX12_in 3 (some .int) ∈ m_gW := m_t (m_tb8 (List.mem_of_getElem? (i := 239) rfl)) rfl
theorem in_9_3 : Cond.code yX12_gave cX12_gave 1 (some .int) ∈ m_gW := m_t (m_tb9 (List.mem_of_getElem? (i := 3) rfl)) rfl
theorem in_9_7 : Cond.code yX12_result cX12_result 1 (some .int) ∈ m_gW := m_t (m_tb9 (List.mem_of_getElem? (i := 7) rfl)) rfl
theorem in_9_11 : Cond.code yX12_room cX12_room 2 (some .int) ∈ m_gW := m_t (m_tb9 (List.mem_of_getElem? (i := 11) rfl)) rfl
theorem in_9_15 : Cond.code yX12_roomful cX12_roomful 4 (some .int) ∈ m_gW := m_t (m_tb9 (List.mem_of_getElem? (i := 15) rfl)) rfl
theorem in_9_19 : Cond.code yX12_reached cX12_reached 1 (some .int) ∈ m_gW := m_t (m_tb9 (List.mem_of_getElem? (i := 19) rfl)) rfl
theorem in_9_23 : Cond.code yX12_markReached cX12_markReached 3 (some .int) ∈ m_gW := m_t (m_tb9 (List.mem_of_getElem? (i := 23) rfl)) rfl
theorem in_9_27 : Cond.code yX12_comesTo cX12_comesTo 3 none ∈ m_gW := m_t (m_tb9 (List.mem_of_getElem? (i := 27) rfl)) rfl
theorem in_9_31 : Cond.code yX12_isReached cX12_isReached 2 (some .int) ∈ m_gW := m_t (m_tb9 (List.mem_of_getElem? (i := 31) rfl)) rfl
theorem in_9_35 : Cond.code yX12_drag cX12_drag 1 (some .int) ∈ m_gW := m_t (m_tb9 (List.mem_of_getElem? (i := 35) rfl)) rfl
theorem in_9_39 : Cond.code yX12_dragNow cX12_dragNow 1 (some .int) ∈ m_gW := m_t (m_tb9 (List.mem_of_getElem? (i := 39) rfl)) rfl
theorem in_9_43 : Cond.code yX12_run cX12_run 3 (some .int) ∈ m_gW := m_t (m_tb9 (List.mem_of_getElem? (i := 43) rfl)) rfl
theorem in_9_47 : Cond.code yX12_ran cX12_ran 2 (some .int) ∈ m_gW := m_t (m_tb9 (List.mem_of_getElem? (i := 47) rfl)) rfl
theorem in_9_51 : Cond.code yX12_odds cX12_odds 5 (some .int) ∈ m_gW := m_t (m_tb9 (List.mem_of_getElem? (i := 51) rfl)) rfl
theorem in_9_55 : Cond.code yX12_ends cX12_ends 3 (some .boolean) ∈ m_gW := m_t (m_tb9 (List.mem_of_getElem? (i := 55) rfl)) rfl
theorem in_9_59 : Cond.code yX12_draw cX12_draw 2 (some .int) ∈ m_gW := m_t (m_tb9 (List.mem_of_getElem? (i := 59) rfl)) rfl
theorem in_9_64 : Cond.code yX12_sentence cX12_sentence 2 (some .int) ∈ m_gW := m_t (m_tb9 (List.mem_of_getElem? (i := 64) rfl)) rfl
theorem in_9_68 : Cond.code yX12_readOr cX12_readOr 2 (some .boolean) ∈ m_gW := m_t (m_tb9 (List.mem_of_getElem? (i := 68) rfl)) rfl
theorem in_9_72 : Cond.code yX12_readAnd cX12_readAnd 2 (some .boolean) ∈ m_gW := m_t (m_tb9 (List.mem_of_getElem? (i := 72) rfl)) rfl
theorem in_9_76 : Cond.code yX12_readSaid cX12_readSaid 4 (some .boolean) ∈ m_gW := m_t (m_tb9 (List.mem_of_getElem? (i := 76) rfl)) rfl
theorem in_9_80 : Cond.code yX12_readBracket cX12_readBracket 1 (some .boolean) ∈ m_gW := m_t (m_tb9 (List.mem_of_getElem? (i := 80) rfl)) rfl
theorem in_9_84 : Cond.code yX12_readNot cX12_readNot 1 (some .boolean) ∈ m_gW := m_t (m_tb9 (List.mem_of_getElem? (i := 84) rfl)) rfl
theorem in_9_88 : Cond.code yX12_saysOne cX12_saysOne 6 (some .int) ∈ m_gW := m_t (m_tb9 (List.mem_of_getElem? (i := 88) rfl)) rfl
theorem in_9_92 : Cond.code yX12_readOf cX12_readOf 2 (some .boolean) ∈ m_gW := m_t (m_tb9 (List.mem_of_getElem? (i := 92) rfl)) rfl
theorem in_9_96 : Cond.code yX12_readFunName cX12_readFunName 1 (some .boolean) ∈ m_gW := m_t (m_tb9 (List.mem_of_getElem? (i := 96) rfl)) rfl
theorem in_9_100 : Cond.code yX12_readCompare cX12_readCompare 3 (some .boolean) ∈ m_gW := m_t (m_tb9 (List.mem_of_getElem? (i := 100) rfl)) rfl
theorem in_9_104 : Cond.code yX12_readNumber cX12_readNumber 3 (some .boolean) ∈ m_gW := m_t (m_tb9 (List.mem_of_getElem? (i := 104) rfl)) rfl
theorem in_9_108 : Cond.code yX12_said cX12_said 4 (some .int) ∈ m_gW := m_t (m_tb9 (List.mem_of_getElem? (i := 108) rfl)) rfl
theorem in_9_112 : Cond.code yX12_holds cX12_holds 8 (some .boolean) ∈ m_gW := m_t (m_tb9 (List.mem_of_getElem? (i := 112) rfl)) rfl
theorem in_9_116 : Cond.code yX12_image cX12_image 3 (some .boolean) ∈ m_gW := m_t (m_tb9 (List.mem_of_getElem? (i := 116) rfl)) rfl
theorem in_9_120 : Cond.code yX12_restore cX12_restore 3 (some .boolean) ∈ m_gW := m_t (m_tb9 (List.mem_of_getElem? (i := 120) rfl)) rfl
theorem in_9_124 : Cond.code yX12_count cX12_count 2 (some .int) ∈ m_gW := m_t (m_tb9 (List.mem_of_getElem? (i := 124) rfl)) rfl
theorem in_9_128 : Cond.code yX12_finiteMany cX12_finiteMany 3 (some .int) ∈ m_gW := m_t (m_tb9 (List.mem_of_getElem? (i := 128) rfl)) rfl
theorem in_1_26 : Cond.classLink RL 8 RX11 ∈ m_gW := m_t (m_tb1 (List.mem_of_getElem? (i := 26) rfl)) rfl
theorem in_1_34 : Cond.classLink RX11 17 RX4 ∈ m_gW := m_t (m_tb1 (List.mem_of_getElem? (i := 34) rfl)) rfl
theorem in_1_40 : Cond.classLink RX4 9 RX3 ∈ m_gW := m_t (m_tb1 (List.mem_of_getElem? (i := 40) rfl)) rfl
theorem in_1_46 : Cond.classLink RX3 41 RX6 ∈ m_gW := m_t (m_tb1 (List.mem_of_getElem? (i := 46) rfl)) rfl
theorem in_1_186 : Cond.classLink RX4 18 RX9 ∈ m_gW := m_t (m_tb1 (List.mem_of_getElem? (i := 186) rfl)) rfl
theorem in_2_87 : Cond.classLink RX11 24 RX8 ∈ m_gW := m_t (m_tb2 (List.mem_of_getElem? (i := 87) rfl)) rfl
theorem in_2_93 : Cond.classLink RX8 9 RX7 ∈ m_gW := m_t (m_tb2 (List.mem_of_getElem? (i := 93) rfl)) rfl
theorem in_2_126 : Cond.classLink RX8 18 RX9 ∈ m_gW := m_t (m_tb2 (List.mem_of_getElem? (i := 126) rfl)) rfl
theorem in_2_137 : Cond.classLink RX11 31 RX5 ∈ m_gW := m_t (m_tb2 (List.mem_of_getElem? (i := 137) rfl)) rfl
theorem in_2_159 : Cond.classLink RX11 41 RX10 ∈ m_gW := m_t (m_tb2 (List.mem_of_getElem? (i := 159) rfl)) rfl
theorem in_2_165 : Cond.classLink RX10 7 RX3 ∈ m_gW := m_t (m_tb2 (List.mem_of_getElem? (i := 165) rfl)) rfl
theorem in_2_167 : Cond.classLink RX10 16 RX2 ∈ m_gW := m_t (m_tb2 (List.mem_of_getElem? (i := 167) rfl)) rfl
theorem in_3_20 : Cond.classLink RX10 23 RX7 ∈ m_gW := m_t (m_tb3 (List.mem_of_getElem? (i := 20) rfl)) rfl
theorem in_3_35 : Cond.classLink RX11 48 RX2 ∈ m_gW := m_t (m_tb3 (List.mem_of_getElem? (i := 35) rfl)) rfl
theorem in_3_37 : Cond.classLink RX11 55 RX1 ∈ m_gW := m_t (m_tb3 (List.mem_of_getElem? (i := 37) rfl)) rfl
theorem in_3_54 : Cond.classLink RX11 62 RX0 ∈ m_gW := m_t (m_tb3 (List.mem_of_getElem? (i := 54) rfl)) rfl
theorem in_3_60 : Cond.classLink RX0 9 RX2 ∈ m_gW := m_t (m_tb3 (List.mem_of_getElem? (i := 60) rfl)) rfl
theorem in_6_179 : Cond.classLink RL 26 RX12 ∈ m_gW := m_t (m_tb6 (List.mem_of_getElem? (i := 179) rfl)) rfl
theorem in_1_192 : Cond.constantLong RX9 43 (-1) ∈ m_gW := m_t (m_tb1 (List.mem_of_getElem? (i := 192) rfl)) rfl
theorem in_2_8 : Cond.constantLong RX9 117 (27) ∈ m_gW := m_t (m_tb2 (List.mem_of_getElem? (i := 8) rfl)) rfl
theorem in_4_141 : Cond.constant RJ6 265 (1431655765) ∈ m_gW := m_t (m_tb4 (List.mem_of_getElem? (i := 141) rfl)) rfl
theorem in_4_142 : Cond.constant RJ6 266 (858993459) ∈ m_gW := m_t (m_tb4 (List.mem_of_getElem? (i := 142) rfl)) rfl
theorem in_4_143 : Cond.constant RJ6 267 (252645135) ∈ m_gW := m_t (m_tb4 (List.mem_of_getElem? (i := 143) rfl)) rfl
theorem in_5_208 : Cond.constant RX11 366 (1103515245) ∈ m_gW := m_t (m_tb5 (List.mem_of_getElem? (i := 208) rfl)) rfl
theorem in_7_195 : Cond.constantLong RX12 54 (27) ∈ m_gW := m_t (m_tb7 (List.mem_of_getElem? (i := 195) rfl)) rfl
theorem in_7_196 : Cond.constantLong RX12 56 (96) ∈ m_gW := m_t (m_tb7 (List.mem_of_getElem? (i := 196) rfl)) rfl
theorem in_9_60 : Cond.constant RX12 436 (1103515245) ∈ m_gW := m_t (m_tb9 (List.mem_of_getElem? (i := 60) rfl)) rfl
theorem in_1_0 : Cond.initialized RL ∈ m_gW := m_t (m_tb1 (List.mem_of_getElem? (i := 0) rfl)) rfl
theorem in_1_1 : Cond.initialized RX11 ∈ m_gW := m_t (m_tb1 (List.mem_of_getElem? (i := 1) rfl)) rfl
theorem in_1_2 : Cond.initialized RX4 ∈ m_gW := m_t (m_tb1 (List.mem_of_getElem? (i := 2) rfl)) rfl
theorem in_1_3 : Cond.initialized RX3 ∈ m_gW := m_t (m_tb1 (List.mem_of_getElem? (i := 3) rfl)) rfl
theorem in_1_4 : Cond.initialized RX6 ∈ m_gW := m_t (m_tb1 (List.mem_of_getElem? (i := 4) rfl)) rfl
theorem in_1_5 : Cond.initialized RX9 ∈ m_gW := m_t (m_tb1 (List.mem_of_getElem? (i := 5) rfl)) rfl
theorem in_1_6 : Cond.initialized RJ9 ∈ m_gW := m_t (m_tb1 (List.mem_of_getElem? (i := 6) rfl)) rfl
theorem in_1_7 : Cond.initialized RJ0 ∈ m_gW := m_t (m_tb1 (List.mem_of_getElem? (i := 7) rfl)) rfl
theorem in_1_8 : Cond.initialized RJ1 ∈ m_gW := m_t (m_tb1 (List.mem_of_getElem? (i := 8) rfl)) rfl
theorem in_1_9 : Cond.initialized RJ3 ∈ m_gW := m_t (m_tb1 (List.mem_of_getElem? (i := 9) rfl)) rfl
theorem in_1_10 : Cond.initialized RJ2 ∈ m_gW := m_t (m_tb1 (List.mem_of_getElem? (i := 10) rfl)) rfl
theorem in_1_11 : Cond.initialized RX8 ∈ m_gW := m_t (m_tb1 (List.mem_of_getElem? (i := 11) rfl)) rfl
theorem in_1_12 : Cond.initialized RX7 ∈ m_gW := m_t (m_tb1 (List.mem_of_getElem? (i := 12) rfl)) rfl
theorem in_1_13 : Cond.initialized RX5 ∈ m_gW := m_t (m_tb1 (List.mem_of_getElem? (i := 13) rfl)) rfl
theorem in_1_14 : Cond.initialized RX10 ∈ m_gW := m_t (m_tb1 (List.mem_of_getElem? (i := 14) rfl)) rfl
theorem in_1_15 : Cond.initialized RX2 ∈ m_gW := m_t (m_tb1 (List.mem_of_getElem? (i := 15) rfl)) rfl
theorem in_1_16 : Cond.initialized RJ7 ∈ m_gW := m_t (m_tb1 (List.mem_of_getElem? (i := 16) rfl)) rfl
theorem in_1_17 : Cond.initialized RX1 ∈ m_gW := m_t (m_tb1 (List.mem_of_getElem? (i := 17) rfl)) rfl
theorem in_1_18 : Cond.initialized RX0 ∈ m_gW := m_t (m_tb1 (List.mem_of_getElem? (i := 18) rfl)) rfl
theorem in_1_19 : Cond.initialized RX12 ∈ m_gW := m_t (m_tb1 (List.mem_of_getElem? (i := 19) rfl)) rfl
theorem in_1_20 : Cond.initialized RJ6 ∈ m_gW := m_t (m_tb1 (List.mem_of_getElem? (i := 20) rfl)) rfl
theorem in_1_21 : Cond.initialized RJ10 ∈ m_gW := m_t (m_tb1 (List.mem_of_getElem? (i := 21) rfl)) rfl
theorem in_1_27 : Cond.instantiable RX11 13 ∈ m_gW := m_t (m_tb1 (List.mem_of_getElem? (i := 27) rfl)) rfl
theorem in_1_35 : Cond.instantiable RX4 4 ∈ m_gW := m_t (m_tb1 (List.mem_of_getElem? (i := 35) rfl)) rfl
theorem in_1_41 : Cond.instantiable RX3 10 ∈ m_gW := m_t (m_tb1 (List.mem_of_getElem? (i := 41) rfl)) rfl
theorem in_1_47 : Cond.instantiable RX6 15 ∈ m_gW := m_t (m_tb1 (List.mem_of_getElem? (i := 47) rfl)) rfl
theorem in_1_187 : Cond.instantiable RX9 17 ∈ m_gW := m_t (m_tb1 (List.mem_of_getElem? (i := 187) rfl)) rfl
theorem in_2_88 : Cond.instantiable RX8 2 ∈ m_gW := m_t (m_tb2 (List.mem_of_getElem? (i := 88) rfl)) rfl
theorem in_2_94 : Cond.instantiable RX7 7 ∈ m_gW := m_t (m_tb2 (List.mem_of_getElem? (i := 94) rfl)) rfl
theorem in_2_138 : Cond.instantiable RX5 5 ∈ m_gW := m_t (m_tb2 (List.mem_of_getElem? (i := 138) rfl)) rfl
theorem in_2_160 : Cond.instantiable RX10 3 ∈ m_gW := m_t (m_tb2 (List.mem_of_getElem? (i := 160) rfl)) rfl
theorem in_2_168 : Cond.instantiable RX2 20 ∈ m_gW := m_t (m_tb2 (List.mem_of_getElem? (i := 168) rfl)) rfl
theorem in_3_38 : Cond.instantiable RX1 3 ∈ m_gW := m_t (m_tb3 (List.mem_of_getElem? (i := 38) rfl)) rfl
theorem in_3_55 : Cond.instantiable RX0 3 ∈ m_gW := m_t (m_tb3 (List.mem_of_getElem? (i := 55) rfl)) rfl
theorem in_6_173 : Cond.instantiable RX12 51 ∈ m_gW := m_t (m_tb6 (List.mem_of_getElem? (i := 173) rfl)) rfl
theorem in_1_29 : Cond.instanceMethod yX11_init ∈ m_gW := m_t (m_tb1 (List.mem_of_getElem? (i := 29) rfl)) rfl
theorem in_1_32 : Cond.instanceMethod objectInit ∈ m_gW := m_t (m_tb1 (List.mem_of_getElem? (i := 32) rfl)) rfl
theorem in_1_37 : Cond.instanceMethod yX4_init ∈ m_gW := m_t (m_tb1 (List.mem_of_getElem? (i := 37) rfl)) rfl
theorem in_1_43 : Cond.instanceMethod yX3_init ∈ m_gW := m_t (m_tb1 (List.mem_of_getElem? (i := 43) rfl)) rfl
theorem in_1_49 : Cond.instanceMethod yX6_init ∈ m_gW := m_t (m_tb1 (List.mem_of_getElem? (i := 49) rfl)) rfl
theorem in_1_189 : Cond.instanceMethod yX9_init ∈ m_gW := m_t (m_tb1 (List.mem_of_getElem? (i := 189) rfl)) rfl
theorem in_1_198 : Cond.instanceMethod yJ0_length_8abf5 ∈ m_gW := m_t (m_tb1 (List.mem_of_getElem? (i := 198) rfl)) rfl
theorem in_1_202 : Cond.instanceMethod yJ0_coder_7d493 ∈ m_gW := m_t (m_tb1 (List.mem_of_getElem? (i := 202) rfl)) rfl
theorem in_1_208 : Cond.instanceMethod yJ0_charAt_5068e ∈ m_gW := m_t (m_tb1 (List.mem_of_getElem? (i := 208) rfl)) rfl
theorem in_1_212 : Cond.instanceMethod yJ0_isLatin1_aae02 ∈ m_gW := m_t (m_tb1 (List.mem_of_getElem? (i := 212) rfl)) rfl
theorem in_2_90 : Cond.instanceMethod yX8_init ∈ m_gW := m_t (m_tb2 (List.mem_of_getElem? (i := 90) rfl)) rfl
theorem in_2_96 : Cond.instanceMethod yX7_init ∈ m_gW := m_t (m_tb2 (List.mem_of_getElem? (i := 96) rfl)) rfl
theorem in_2_140 : Cond.instanceMethod yX5_init ∈ m_gW := m_t (m_tb2 (List.mem_of_getElem? (i := 140) rfl)) rfl
theorem in_2_162 : Cond.instanceMethod yX10_init ∈ m_gW := m_t (m_tb2 (List.mem_of_getElem? (i := 162) rfl)) rfl
theorem in_2_170 : Cond.instanceMethod yX2_init ∈ m_gW := m_t (m_tb2 (List.mem_of_getElem? (i := 170) rfl)) rfl
theorem in_3_40 : Cond.instanceMethod yX1_init ∈ m_gW := m_t (m_tb3 (List.mem_of_getElem? (i := 40) rfl)) rfl
theorem in_3_57 : Cond.instanceMethod yX0_init ∈ m_gW := m_t (m_tb3 (List.mem_of_getElem? (i := 57) rfl)) rfl
theorem in_3_114 : Cond.instanceMethod yX11_feed ∈ m_gW := m_t (m_tb3 (List.mem_of_getElem? (i := 114) rfl)) rfl
theorem in_3_119 : Cond.instanceMethod yX11_putBytes ∈ m_gW := m_t (m_tb3 (List.mem_of_getElem? (i := 119) rfl)) rfl
theorem in_3_122 : Cond.instanceMethod yX11_end ∈ m_gW := m_t (m_tb3 (List.mem_of_getElem? (i := 122) rfl)) rfl
theorem in_3_126 : Cond.instanceMethod yX11_program ∈ m_gW := m_t (m_tb3 (List.mem_of_getElem? (i := 126) rfl)) rfl
theorem in_3_131 : Cond.instanceMethod yX11_takeTape ∈ m_gW := m_t (m_tb3 (List.mem_of_getElem? (i := 131) rfl)) rfl
theorem in_3_134 : Cond.instanceMethod yX4_readsAll ∈ m_gW := m_t (m_tb3 (List.mem_of_getElem? (i := 134) rfl)) rfl
theorem in_3_138 : Cond.instanceMethod yX3_clear ∈ m_gW := m_t (m_tb3 (List.mem_of_getElem? (i := 138) rfl)) rfl
theorem in_3_142 : Cond.instanceMethod yX9_open ∈ m_gW := m_t (m_tb3 (List.mem_of_getElem? (i := 142) rfl)) rfl
theorem in_3_150 : Cond.instanceMethod yX9_readPiece ∈ m_gW := m_t (m_tb3 (List.mem_of_getElem? (i := 150) rfl)) rfl
theorem in_3_160 : Cond.instanceMethod yX9_readLettersAndDigits ∈ m_gW := m_t (m_tb3 (List.mem_of_getElem? (i := 160) rfl)) rfl
theorem in_3_164 : Cond.instanceMethod yX9_keywordOf ∈ m_gW := m_t (m_tb3 (List.mem_of_getElem? (i := 164) rfl)) rfl
theorem in_3_168 : Cond.instanceMethod yX9_put ∈ m_gW := m_t (m_tb3 (List.mem_of_getElem? (i := 168) rfl)) rfl
theorem in_3_171 : Cond.instanceMethod yX9_advance ∈ m_gW := m_t (m_tb3 (List.mem_of_getElem? (i := 171) rfl)) rfl
theorem in_3_176 : Cond.instanceMethod yX4_readsFun ∈ m_gW := m_t (m_tb3 (List.mem_of_getElem? (i := 176) rfl)) rfl
theorem in_3_180 : Cond.instanceMethod yX4_latestFunIsBare ∈ m_gW := m_t (m_tb3 (List.mem_of_getElem? (i := 180) rfl)) rfl
theorem in_3_183 : Cond.instanceMethod yX9_failsBy ∈ m_gW := m_t (m_tb3 (List.mem_of_getElem? (i := 183) rfl)) rfl
theorem in_3_188 : Cond.instanceMethod yX3_funOf ∈ m_gW := m_t (m_tb3 (List.mem_of_getElem? (i := 188) rfl)) rfl
theorem in_3_192 : Cond.instanceMethod yX3_openFun ∈ m_gW := m_t (m_tb3 (List.mem_of_getElem? (i := 192) rfl)) rfl
theorem in_3_197 : Cond.instanceMethod yX4_readsParameters ∈ m_gW := m_t (m_tb3 (List.mem_of_getElem? (i := 197) rfl)) rfl
theorem in_3_201 : Cond.instanceMethod yX4_varOf ∈ m_gW := m_t (m_tb3 (List.mem_of_getElem? (i := 201) rfl)) rfl
theorem in_3_205 : Cond.instanceMethod yX4_addVar ∈ m_gW := m_t (m_tb3 (List.mem_of_getElem? (i := 205) rfl)) rfl
theorem in_3_209 : Cond.instanceMethod yX4_readsIs ∈ m_gW := m_t (m_tb3 (List.mem_of_getElem? (i := 209) rfl)) rfl
theorem in_3_212 : Cond.instanceMethod yX9_takesKeyword ∈ m_gW := m_t (m_tb3 (List.mem_of_getElem? (i := 212) rfl)) rfl
theorem in_3_218 : Cond.instanceMethod yX4_readsExpr ∈ m_gW := m_t (m_tb3 (List.mem_of_getElem? (i := 218) rfl)) rfl
theorem in_3_222 : Cond.instanceMethod yX4_takesVars ∈ m_gW := m_t (m_tb3 (List.mem_of_getElem? (i := 222) rfl)) rfl
theorem in_3_226 : Cond.instanceMethod yX4_takesFun ∈ m_gW := m_t (m_tb3 (List.mem_of_getElem? (i := 226) rfl)) rfl
theorem in_3_229 : Cond.instanceMethod yX3_argumentCount ∈ m_gW := m_t (m_tb3 (List.mem_of_getElem? (i := 229) rfl)) rfl
theorem in_3_234 : Cond.instanceMethod yX4_readsWhen ∈ m_gW := m_t (m_tb3 (List.mem_of_getElem? (i := 234) rfl)) rfl
theorem in_3_237 : Cond.instanceMethod yX3_closeLine ∈ m_gW := m_t (m_tb3 (List.mem_of_getElem? (i := 237) rfl)) rfl
theorem in_4_1 : Cond.instanceMethod yX9_takesSign ∈ m_gW := m_t (m_tb4 (List.mem_of_getElem? (i := 1) rfl)) rfl
theorem in_4_5 : Cond.instanceMethod yX5_findAll ∈ m_gW := m_t (m_tb4 (List.mem_of_getElem? (i := 5) rfl)) rfl
theorem in_4_10 : Cond.instanceMethod yX5_clear ∈ m_gW := m_t (m_tb4 (List.mem_of_getElem? (i := 10) rfl)) rfl
theorem in_4_15 : Cond.instanceMethod yX5_joinLine ∈ m_gW := m_t (m_tb4 (List.mem_of_getElem? (i := 15) rfl)) rfl
theorem in_4_18 : Cond.instanceMethod yX3_varOfLine ∈ m_gW := m_t (m_tb4 (List.mem_of_getElem? (i := 18) rfl)) rfl
theorem in_4_28 : Cond.instanceMethod yX3_operandAt ∈ m_gW := m_t (m_tb4 (List.mem_of_getElem? (i := 28) rfl)) rfl
theorem in_4_33 : Cond.instanceMethod yX5_join ∈ m_gW := m_t (m_tb4 (List.mem_of_getElem? (i := 33) rfl)) rfl
theorem in_4_37 : Cond.instanceMethod yX5_rootOf ∈ m_gW := m_t (m_tb4 (List.mem_of_getElem? (i := 37) rfl)) rfl
theorem in_4_41 : Cond.instanceMethod yX5_leftOf ∈ m_gW := m_t (m_tb4 (List.mem_of_getElem? (i := 41) rfl)) rfl
theorem in_4_45 : Cond.instanceMethod yX5_rootWithRegion ∈ m_gW := m_t (m_tb4 (List.mem_of_getElem? (i := 45) rfl)) rfl
theorem in_4_49 : Cond.instanceMethod yX5_rightOf ∈ m_gW := m_t (m_tb4 (List.mem_of_getElem? (i := 49) rfl)) rfl
theorem in_4_53 : Cond.instanceMethod yX5_joinCall ∈ m_gW := m_t (m_tb4 (List.mem_of_getElem? (i := 53) rfl)) rfl
theorem in_4_56 : Cond.instanceMethod yX3_resultOf ∈ m_gW := m_t (m_tb4 (List.mem_of_getElem? (i := 56) rfl)) rfl
theorem in_4_60 : Cond.instanceMethod yX3_varCount ∈ m_gW := m_t (m_tb4 (List.mem_of_getElem? (i := 60) rfl)) rfl
theorem in_4_64 : Cond.instanceMethod yX3_elseSlot ∈ m_gW := m_t (m_tb4 (List.mem_of_getElem? (i := 64) rfl)) rfl
theorem in_4_70 : Cond.instanceMethod yX5_numberAll ∈ m_gW := m_t (m_tb4 (List.mem_of_getElem? (i := 70) rfl)) rfl
theorem in_4_75 : Cond.instanceMethod yX5_numberFrom ∈ m_gW := m_t (m_tb4 (List.mem_of_getElem? (i := 75) rfl)) rfl
theorem in_4_79 : Cond.instanceMethod yX5_tellAll ∈ m_gW := m_t (m_tb4 (List.mem_of_getElem? (i := 79) rfl)) rfl
theorem in_4_82 : Cond.instanceMethod yX6_derive ∈ m_gW := m_t (m_tb4 (List.mem_of_getElem? (i := 82) rfl)) rfl
theorem in_4_87 : Cond.instanceMethod yX6_closeReach ∈ m_gW := m_t (m_tb4 (List.mem_of_getElem? (i := 87) rfl)) rfl
theorem in_4_90 : Cond.instanceMethod yX6_reachOf ∈ m_gW := m_t (m_tb4 (List.mem_of_getElem? (i := 90) rfl)) rfl
theorem in_4_94 : Cond.instanceMethod yX6_has ∈ m_gW := m_t (m_tb4 (List.mem_of_getElem? (i := 94) rfl)) rfl
theorem in_4_100 : Cond.instanceMethod yX6_tellOwner ∈ m_gW := m_t (m_tb4 (List.mem_of_getElem? (i := 100) rfl)) rfl
theorem in_4_104 : Cond.instanceMethod yX6_pointedBy ∈ m_gW := m_t (m_tb4 (List.mem_of_getElem? (i := 104) rfl)) rfl
theorem in_4_110 : Cond.instanceMethod yX6_tellFilled ∈ m_gW := m_t (m_tb4 (List.mem_of_getElem? (i := 110) rfl)) rfl
theorem in_4_114 : Cond.instanceMethod yX6_isOwned ∈ m_gW := m_t (m_tb4 (List.mem_of_getElem? (i := 114) rfl)) rfl
theorem in_4_119 : Cond.instanceMethod yX6_tellSpan ∈ m_gW := m_t (m_tb4 (List.mem_of_getElem? (i := 119) rfl)) rfl
theorem in_4_123 : Cond.instanceMethod yX6_reachOfLine ∈ m_gW := m_t (m_tb4 (List.mem_of_getElem? (i := 123) rfl)) rfl
theorem in_4_126 : Cond.instanceMethod yX6_reachOfVar ∈ m_gW := m_t (m_tb4 (List.mem_of_getElem? (i := 126) rfl)) rfl
theorem in_4_130 : Cond.instanceMethod yX3_operandCount ∈ m_gW := m_t (m_tb4 (List.mem_of_getElem? (i := 130) rfl)) rfl
theorem in_4_136 : Cond.instanceMethod yX6_tellFinite ∈ m_gW := m_t (m_tb4 (List.mem_of_getElem? (i := 136) rfl)) rfl
theorem in_4_145 : Cond.instanceMethod yX3_copyFrom ∈ m_gW := m_t (m_tb4 (List.mem_of_getElem? (i := 145) rfl)) rfl
theorem in_4_152 : Cond.instanceMethod yX6_copyFrom ∈ m_gW := m_t (m_tb4 (List.mem_of_getElem? (i := 152) rfl)) rfl
theorem in_4_157 : Cond.instanceMethod yX2_clear ∈ m_gW := m_t (m_tb4 (List.mem_of_getElem? (i := 157) rfl)) rfl
theorem in_4_161 : Cond.instanceMethod yX7_clear ∈ m_gW := m_t (m_tb4 (List.mem_of_getElem? (i := 161) rfl)) rfl
theorem in_4_165 : Cond.instanceMethod yX0_clear ∈ m_gW := m_t (m_tb4 (List.mem_of_getElem? (i := 165) rfl)) rfl
theorem in_4_169 : Cond.instanceMethod yX11_fault ∈ m_gW := m_t (m_tb4 (List.mem_of_getElem? (i := 169) rfl)) rfl
theorem in_4_173 : Cond.instanceMethod yX11_points ∈ m_gW := m_t (m_tb4 (List.mem_of_getElem? (i := 173) rfl)) rfl
theorem in_4_177 : Cond.instanceMethod yX3_hasVar ∈ m_gW := m_t (m_tb4 (List.mem_of_getElem? (i := 177) rfl)) rfl
theorem in_4_181 : Cond.instanceMethod yX3_hasFun ∈ m_gW := m_t (m_tb4 (List.mem_of_getElem? (i := 181) rfl)) rfl
theorem in_4_186 : Cond.instanceMethod yX11_region ∈ m_gW := m_t (m_tb4 (List.mem_of_getElem? (i := 186) rfl)) rfl
theorem in_4_191 : Cond.instanceMethod yX6_isFinite ∈ m_gW := m_t (m_tb4 (List.mem_of_getElem? (i := 191) rfl)) rfl
theorem in_4_195 : Cond.instanceMethod yX2_roomsOf ∈ m_gW := m_t (m_tb4 (List.mem_of_getElem? (i := 195) rfl)) rfl
theorem in_4_199 : Cond.instanceMethod yX2_cellsOf ∈ m_gW := m_t (m_tb4 (List.mem_of_getElem? (i := 199) rfl)) rfl
theorem in_4_203 : Cond.instanceMethod yX2_hasCell ∈ m_gW := m_t (m_tb4 (List.mem_of_getElem? (i := 203) rfl)) rfl
theorem in_4_207 : Cond.instanceMethod yX2_regionOfCell ∈ m_gW := m_t (m_tb4 (List.mem_of_getElem? (i := 207) rfl)) rfl
theorem in_4_211 : Cond.instanceMethod yX2_hasRoom ∈ m_gW := m_t (m_tb4 (List.mem_of_getElem? (i := 211) rfl)) rfl
theorem in_4_215 : Cond.instanceMethod yX11_span ∈ m_gW := m_t (m_tb4 (List.mem_of_getElem? (i := 215) rfl)) rfl
theorem in_4_221 : Cond.instanceMethod yX11_load ∈ m_gW := m_t (m_tb4 (List.mem_of_getElem? (i := 221) rfl)) rfl
theorem in_4_226 : Cond.instanceMethod yX11_fitsMain ∈ m_gW := m_t (m_tb4 (List.mem_of_getElem? (i := 226) rfl)) rfl
theorem in_4_229 : Cond.instanceMethod yX0_keep ∈ m_gW := m_t (m_tb4 (List.mem_of_getElem? (i := 229) rfl)) rfl
theorem in_4_234 : Cond.instanceMethod yX2_copyFrom ∈ m_gW := m_t (m_tb4 (List.mem_of_getElem? (i := 234) rfl)) rfl
theorem in_5_0 : Cond.instanceMethod yX11_beginWithTape ∈ m_gW := m_t (m_tb5 (List.mem_of_getElem? (i := 0) rfl)) rfl
theorem in_5_3 : Cond.instanceMethod yX2_begin ∈ m_gW := m_t (m_tb5 (List.mem_of_getElem? (i := 3) rfl)) rfl
theorem in_5_9 : Cond.instanceMethod yX2_makeRooms ∈ m_gW := m_t (m_tb5 (List.mem_of_getElem? (i := 9) rfl)) rfl
theorem in_5_13 : Cond.instanceMethod yX2_openFrame ∈ m_gW := m_t (m_tb5 (List.mem_of_getElem? (i := 13) rfl)) rfl
theorem in_5_16 : Cond.instanceMethod yX2_setVar ∈ m_gW := m_t (m_tb5 (List.mem_of_getElem? (i := 16) rfl)) rfl
theorem in_5_20 : Cond.instanceMethod yX3_parametersOfMain ∈ m_gW := m_t (m_tb5 (List.mem_of_getElem? (i := 20) rfl)) rfl
theorem in_5_25 : Cond.instanceMethod yX11_steps ∈ m_gW := m_t (m_tb5 (List.mem_of_getElem? (i := 25) rfl)) rfl
theorem in_5_29 : Cond.instanceMethod yX2_makeStep ∈ m_gW := m_t (m_tb5 (List.mem_of_getElem? (i := 29) rfl)) rfl
theorem in_5_34 : Cond.instanceMethod yX2_stopReason ∈ m_gW := m_t (m_tb5 (List.mem_of_getElem? (i := 34) rfl)) rfl
theorem in_5_38 : Cond.instanceMethod yX2_kindAt ∈ m_gW := m_t (m_tb5 (List.mem_of_getElem? (i := 38) rfl)) rfl
theorem in_5_43 : Cond.instanceMethod yX2_hasPairForNumber ∈ m_gW := m_t (m_tb5 (List.mem_of_getElem? (i := 43) rfl)) rfl
theorem in_5_46 : Cond.instanceMethod yX3_conditionSlot ∈ m_gW := m_t (m_tb5 (List.mem_of_getElem? (i := 46) rfl)) rfl
theorem in_5_51 : Cond.instanceMethod yX2_callsNow ∈ m_gW := m_t (m_tb5 (List.mem_of_getElem? (i := 51) rfl)) rfl
theorem in_5_55 : Cond.instanceMethod yX2_valueAt ∈ m_gW := m_t (m_tb5 (List.mem_of_getElem? (i := 55) rfl)) rfl
theorem in_5_58 : Cond.instanceMethod yX3_leavesBy ∈ m_gW := m_t (m_tb5 (List.mem_of_getElem? (i := 58) rfl)) rfl
theorem in_5_63 : Cond.instanceMethod yX2_callBy ∈ m_gW := m_t (m_tb5 (List.mem_of_getElem? (i := 63) rfl)) rfl
theorem in_5_68 : Cond.instanceMethod yX2_moveFrame ∈ m_gW := m_t (m_tb5 (List.mem_of_getElem? (i := 68) rfl)) rfl
theorem in_5_72 : Cond.instanceMethod yX2_work ∈ m_gW := m_t (m_tb5 (List.mem_of_getElem? (i := 72) rfl)) rfl
theorem in_5_76 : Cond.instanceMethod yX2_give ∈ m_gW := m_t (m_tb5 (List.mem_of_getElem? (i := 76) rfl)) rfl
theorem in_5_80 : Cond.instanceMethod yX2_layCell ∈ m_gW := m_t (m_tb5 (List.mem_of_getElem? (i := 80) rfl)) rfl
theorem in_5_84 : Cond.instanceMethod yX2_freeCell ∈ m_gW := m_t (m_tb5 (List.mem_of_getElem? (i := 84) rfl)) rfl
theorem in_5_90 : Cond.instanceMethod yX2_latestRoom ∈ m_gW := m_t (m_tb5 (List.mem_of_getElem? (i := 90) rfl)) rfl
theorem in_5_95 : Cond.instanceMethod yX2_giveSide ∈ m_gW := m_t (m_tb5 (List.mem_of_getElem? (i := 95) rfl)) rfl
theorem in_5_99 : Cond.instanceMethod yX2_giveVar ∈ m_gW := m_t (m_tb5 (List.mem_of_getElem? (i := 99) rfl)) rfl
theorem in_5_104 : Cond.instanceMethod yX2_settle ∈ m_gW := m_t (m_tb5 (List.mem_of_getElem? (i := 104) rfl)) rfl
theorem in_5_108 : Cond.instanceMethod yX2_freeRooms ∈ m_gW := m_t (m_tb5 (List.mem_of_getElem? (i := 108) rfl)) rfl
theorem in_5_112 : Cond.instanceMethod yX2_freeRoom ∈ m_gW := m_t (m_tb5 (List.mem_of_getElem? (i := 112) rfl)) rfl
theorem in_5_117 : Cond.instanceMethod yX11_now ∈ m_gW := m_t (m_tb5 (List.mem_of_getElem? (i := 117) rfl)) rfl
theorem in_5_121 : Cond.instanceMethod yX2_latestFun ∈ m_gW := m_t (m_tb5 (List.mem_of_getElem? (i := 121) rfl)) rfl
theorem in_5_125 : Cond.instanceMethod yX2_latestLine ∈ m_gW := m_t (m_tb5 (List.mem_of_getElem? (i := 125) rfl)) rfl
theorem in_5_129 : Cond.instanceMethod yX11_kind ∈ m_gW := m_t (m_tb5 (List.mem_of_getElem? (i := 129) rfl)) rfl
theorem in_5_133 : Cond.instanceMethod yX2_hasVar ∈ m_gW := m_t (m_tb5 (List.mem_of_getElem? (i := 133) rfl)) rfl
theorem in_5_138 : Cond.instanceMethod yX11_cell ∈ m_gW := m_t (m_tb5 (List.mem_of_getElem? (i := 138) rfl)) rfl
theorem in_5_144 : Cond.instanceMethod yX11_gave ∈ m_gW := m_t (m_tb5 (List.mem_of_getElem? (i := 144) rfl)) rfl
theorem in_5_148 : Cond.instanceMethod yX2_resultKind ∈ m_gW := m_t (m_tb5 (List.mem_of_getElem? (i := 148) rfl)) rfl
theorem in_5_152 : Cond.instanceMethod yX11_room ∈ m_gW := m_t (m_tb5 (List.mem_of_getElem? (i := 152) rfl)) rfl
theorem in_5_157 : Cond.instanceMethod yX11_roomful ∈ m_gW := m_t (m_tb5 (List.mem_of_getElem? (i := 157) rfl)) rfl
theorem in_5_161 : Cond.instanceMethod yX2_cellsIn ∈ m_gW := m_t (m_tb5 (List.mem_of_getElem? (i := 161) rfl)) rfl
theorem in_5_165 : Cond.instanceMethod yX11_reached ∈ m_gW := m_t (m_tb5 (List.mem_of_getElem? (i := 165) rfl)) rfl
theorem in_5_169 : Cond.instanceMethod yX1_countReached ∈ m_gW := m_t (m_tb5 (List.mem_of_getElem? (i := 169) rfl)) rfl
theorem in_5_175 : Cond.instanceMethod yX1_come ∈ m_gW := m_t (m_tb5 (List.mem_of_getElem? (i := 175) rfl)) rfl
theorem in_5_180 : Cond.instanceMethod yX11_isReached ∈ m_gW := m_t (m_tb5 (List.mem_of_getElem? (i := 180) rfl)) rfl
theorem in_5_184 : Cond.instanceMethod yX11_drag ∈ m_gW := m_t (m_tb5 (List.mem_of_getElem? (i := 184) rfl)) rfl
theorem in_5_188 : Cond.instanceMethod yX11_run ∈ m_gW := m_t (m_tb5 (List.mem_of_getElem? (i := 188) rfl)) rfl
theorem in_5_194 : Cond.instanceMethod yX11_tellRan ∈ m_gW := m_t (m_tb5 (List.mem_of_getElem? (i := 194) rfl)) rfl
theorem in_5_197 : Cond.instanceMethod yX11_ran ∈ m_gW := m_t (m_tb5 (List.mem_of_getElem? (i := 197) rfl)) rfl
theorem in_5_201 : Cond.instanceMethod yX11_odds ∈ m_gW := m_t (m_tb5 (List.mem_of_getElem? (i := 201) rfl)) rfl
theorem in_5_206 : Cond.instanceMethod yX11_endsByDraws ∈ m_gW := m_t (m_tb5 (List.mem_of_getElem? (i := 206) rfl)) rfl
theorem in_5_210 : Cond.instanceMethod yX11_undo ∈ m_gW := m_t (m_tb5 (List.mem_of_getElem? (i := 210) rfl)) rfl
theorem in_5_214 : Cond.instanceMethod yX0_takeBack ∈ m_gW := m_t (m_tb5 (List.mem_of_getElem? (i := 214) rfl)) rfl
theorem in_5_218 : Cond.instanceMethod yX11_sentence ∈ m_gW := m_t (m_tb5 (List.mem_of_getElem? (i := 218) rfl)) rfl
theorem in_5_222 : Cond.instanceMethod yX8_readsAll ∈ m_gW := m_t (m_tb5 (List.mem_of_getElem? (i := 222) rfl)) rfl
theorem in_5_229 : Cond.instanceMethod yX8_readsCond ∈ m_gW := m_t (m_tb5 (List.mem_of_getElem? (i := 229) rfl)) rfl
theorem in_5_233 : Cond.instanceMethod yX8_readsParts ∈ m_gW := m_t (m_tb5 (List.mem_of_getElem? (i := 233) rfl)) rfl
theorem in_5_237 : Cond.instanceMethod yX8_readsOne ∈ m_gW := m_t (m_tb5 (List.mem_of_getElem? (i := 237) rfl)) rfl
theorem in_6_3 : Cond.instanceMethod yX7_put ∈ m_gW := m_t (m_tb6 (List.mem_of_getElem? (i := 3) rfl)) rfl
theorem in_6_8 : Cond.instanceMethod yX8_readsFunOf ∈ m_gW := m_t (m_tb6 (List.mem_of_getElem? (i := 8) rfl)) rfl
theorem in_6_13 : Cond.instanceMethod yX8_readsMeasure ∈ m_gW := m_t (m_tb6 (List.mem_of_getElem? (i := 13) rfl)) rfl
theorem in_6_16 : Cond.instanceMethod yX7_copyFrom ∈ m_gW := m_t (m_tb6 (List.mem_of_getElem? (i := 16) rfl)) rfl
theorem in_6_21 : Cond.instanceMethod yX11_said ∈ m_gW := m_t (m_tb6 (List.mem_of_getElem? (i := 21) rfl)) rfl
theorem in_6_25 : Cond.instanceMethod yX7_holds ∈ m_gW := m_t (m_tb6 (List.mem_of_getElem? (i := 25) rfl)) rfl
theorem in_6_30 : Cond.instanceMethod yX7_isTrue ∈ m_gW := m_t (m_tb6 (List.mem_of_getElem? (i := 30) rfl)) rfl
theorem in_6_37 : Cond.instanceMethod yX7_fits ∈ m_gW := m_t (m_tb6 (List.mem_of_getElem? (i := 37) rfl)) rfl
theorem in_6_40 : Cond.instanceMethod yX11_image ∈ m_gW := m_t (m_tb6 (List.mem_of_getElem? (i := 40) rfl)) rfl
theorem in_6_44 : Cond.instanceMethod yX10_copyFrom ∈ m_gW := m_t (m_tb6 (List.mem_of_getElem? (i := 44) rfl)) rfl
theorem in_6_51 : Cond.instanceMethod yX11_restore ∈ m_gW := m_t (m_tb6 (List.mem_of_getElem? (i := 51) rfl)) rfl
theorem in_6_55 : Cond.instanceMethod yX11_count ∈ m_gW := m_t (m_tb6 (List.mem_of_getElem? (i := 55) rfl)) rfl
theorem in_6_64 : Cond.instanceMethod yX11_fun ∈ m_gW := m_t (m_tb6 (List.mem_of_getElem? (i := 64) rfl)) rfl
theorem in_6_129 : Cond.instanceMethod yX3_calledBy ∈ m_gW := m_t (m_tb6 (List.mem_of_getElem? (i := 129) rfl)) rfl
theorem in_6_133 : Cond.instanceMethod yX3_isCall ∈ m_gW := m_t (m_tb6 (List.mem_of_getElem? (i := 133) rfl)) rfl
theorem in_6_137 : Cond.instanceMethod yX3_endsWithLeavingCall ∈ m_gW := m_t (m_tb6 (List.mem_of_getElem? (i := 137) rfl)) rfl
theorem in_6_145 : Cond.instanceMethod yX11_value ∈ m_gW := m_t (m_tb6 (List.mem_of_getElem? (i := 145) rfl)) rfl
theorem in_6_152 : Cond.instanceMethod yX11_in ∈ m_gW := m_t (m_tb6 (List.mem_of_getElem? (i := 152) rfl)) rfl
theorem in_6_159 : Cond.instanceMethod yX11_result ∈ m_gW := m_t (m_tb6 (List.mem_of_getElem? (i := 159) rfl)) rfl
theorem in_6_163 : Cond.instanceMethod yX12_thrown ∈ m_gW := m_t (m_tb6 (List.mem_of_getElem? (i := 163) rfl)) rfl
theorem in_6_167 : Cond.instanceMethod yX12_feed ∈ m_gW := m_t (m_tb6 (List.mem_of_getElem? (i := 167) rfl)) rfl
theorem in_6_172 : Cond.instanceMethod yX12_come ∈ m_gW := m_t (m_tb6 (List.mem_of_getElem? (i := 172) rfl)) rfl
theorem in_6_176 : Cond.instanceMethod yX12_end ∈ m_gW := m_t (m_tb6 (List.mem_of_getElem? (i := 176) rfl)) rfl
theorem in_6_181 : Cond.instanceMethod yX12_init ∈ m_gW := m_t (m_tb6 (List.mem_of_getElem? (i := 181) rfl)) rfl
theorem in_6_186 : Cond.instanceMethod yX12_startSo ∈ m_gW := m_t (m_tb6 (List.mem_of_getElem? (i := 186) rfl)) rfl
theorem in_6_190 : Cond.instanceMethod yX12_layRegions ∈ m_gW := m_t (m_tb6 (List.mem_of_getElem? (i := 190) rfl)) rfl
theorem in_6_194 : Cond.instanceMethod yX12_joinLine ∈ m_gW := m_t (m_tb6 (List.mem_of_getElem? (i := 194) rfl)) rfl
theorem in_6_198 : Cond.instanceMethod yX12_madeBy ∈ m_gW := m_t (m_tb6 (List.mem_of_getElem? (i := 198) rfl)) rfl
theorem in_6_202 : Cond.instanceMethod yX12_node ∈ m_gW := m_t (m_tb6 (List.mem_of_getElem? (i := 202) rfl)) rfl
theorem in_6_206 : Cond.instanceMethod yX12_var ∈ m_gW := m_t (m_tb6 (List.mem_of_getElem? (i := 206) rfl)) rfl
theorem in_6_210 : Cond.instanceMethod yX12_join ∈ m_gW := m_t (m_tb6 (List.mem_of_getElem? (i := 210) rfl)) rfl
theorem in_6_214 : Cond.instanceMethod yX12_topOf ∈ m_gW := m_t (m_tb6 (List.mem_of_getElem? (i := 214) rfl)) rfl
theorem in_6_218 : Cond.instanceMethod yX12_sideNode ∈ m_gW := m_t (m_tb6 (List.mem_of_getElem? (i := 218) rfl)) rfl
theorem in_6_222 : Cond.instanceMethod yX12_pointFrom ∈ m_gW := m_t (m_tb6 (List.mem_of_getElem? (i := 222) rfl)) rfl
theorem in_6_226 : Cond.instanceMethod yX12_varsOf ∈ m_gW := m_t (m_tb6 (List.mem_of_getElem? (i := 226) rfl)) rfl
theorem in_6_230 : Cond.instanceMethod yX12_numberFrom ∈ m_gW := m_t (m_tb6 (List.mem_of_getElem? (i := 230) rfl)) rfl
theorem in_6_234 : Cond.instanceMethod yX12_numbered ∈ m_gW := m_t (m_tb6 (List.mem_of_getElem? (i := 234) rfl)) rfl
theorem in_6_238 : Cond.instanceMethod yX12_reachFrom ∈ m_gW := m_t (m_tb6 (List.mem_of_getElem? (i := 238) rfl)) rfl
theorem in_7_5 : Cond.instanceMethod yX12_layFun ∈ m_gW := m_t (m_tb7 (List.mem_of_getElem? (i := 5) rfl)) rfl
theorem in_7_9 : Cond.instanceMethod yX12_laySpans ∈ m_gW := m_t (m_tb7 (List.mem_of_getElem? (i := 9) rfl)) rfl
theorem in_7_13 : Cond.instanceMethod yX12_reachIn ∈ m_gW := m_t (m_tb7 (List.mem_of_getElem? (i := 13) rfl)) rfl
theorem in_7_170 : Cond.instanceMethod yX12_program ∈ m_gW := m_t (m_tb7 (List.mem_of_getElem? (i := 170) rfl)) rfl
theorem in_7_175 : Cond.instanceMethod yX12_begin ∈ m_gW := m_t (m_tb7 (List.mem_of_getElem? (i := 175) rfl)) rfl
theorem in_7_179 : Cond.instanceMethod yX12_take ∈ m_gW := m_t (m_tb7 (List.mem_of_getElem? (i := 179) rfl)) rfl
theorem in_7_183 : Cond.instanceMethod yX12_go ∈ m_gW := m_t (m_tb7 (List.mem_of_getElem? (i := 183) rfl)) rfl
theorem in_7_193 : Cond.instanceMethod yX12_tapeAt ∈ m_gW := m_t (m_tb7 (List.mem_of_getElem? (i := 193) rfl)) rfl
theorem in_7_199 : Cond.instanceMethod yX12_isWord ∈ m_gW := m_t (m_tb7 (List.mem_of_getElem? (i := 199) rfl)) rfl
theorem in_7_209 : Cond.instanceMethod yX12_readFun ∈ m_gW := m_t (m_tb7 (List.mem_of_getElem? (i := 209) rfl)) rfl
theorem in_7_213 : Cond.instanceMethod yX12_isBare ∈ m_gW := m_t (m_tb7 (List.mem_of_getElem? (i := 213) rfl)) rfl
theorem in_7_217 : Cond.instanceMethod yX12_funNow ∈ m_gW := m_t (m_tb7 (List.mem_of_getElem? (i := 217) rfl)) rfl
theorem in_7_221 : Cond.instanceMethod yX12_bad ∈ m_gW := m_t (m_tb7 (List.mem_of_getElem? (i := 221) rfl)) rfl
theorem in_7_225 : Cond.instanceMethod yX12_isName ∈ m_gW := m_t (m_tb7 (List.mem_of_getElem? (i := 225) rfl)) rfl
theorem in_7_232 : Cond.instanceMethod yX12_readParameter ∈ m_gW := m_t (m_tb7 (List.mem_of_getElem? (i := 232) rfl)) rfl
theorem in_7_236 : Cond.instanceMethod yX12_findVar ∈ m_gW := m_t (m_tb7 (List.mem_of_getElem? (i := 236) rfl)) rfl
theorem in_8_0 : Cond.instanceMethod yX12_readIs ∈ m_gW := m_t (m_tb8 (List.mem_of_getElem? (i := 0) rfl)) rfl
theorem in_8_4 : Cond.instanceMethod yX12_readExpr ∈ m_gW := m_t (m_tb8 (List.mem_of_getElem? (i := 4) rfl)) rfl
theorem in_8_8 : Cond.instanceMethod yX12_readVar ∈ m_gW := m_t (m_tb8 (List.mem_of_getElem? (i := 8) rfl)) rfl
theorem in_8_12 : Cond.instanceMethod yX12_readVars ∈ m_gW := m_t (m_tb8 (List.mem_of_getElem? (i := 12) rfl)) rfl
theorem in_8_16 : Cond.instanceMethod yX12_readCalled ∈ m_gW := m_t (m_tb8 (List.mem_of_getElem? (i := 16) rfl)) rfl
theorem in_8_20 : Cond.instanceMethod yX12_readWhen ∈ m_gW := m_t (m_tb8 (List.mem_of_getElem? (i := 20) rfl)) rfl
theorem in_8_24 : Cond.instanceMethod yX12_readEnd ∈ m_gW := m_t (m_tb8 (List.mem_of_getElem? (i := 24) rfl)) rfl
theorem in_8_28 : Cond.instanceMethod yX12_isSign ∈ m_gW := m_t (m_tb8 (List.mem_of_getElem? (i := 28) rfl)) rfl
theorem in_8_31 : Cond.instanceMethod yX12_fault ∈ m_gW := m_t (m_tb8 (List.mem_of_getElem? (i := 31) rfl)) rfl
theorem in_8_35 : Cond.instanceMethod yX12_fun ∈ m_gW := m_t (m_tb8 (List.mem_of_getElem? (i := 35) rfl)) rfl
theorem in_8_40 : Cond.instanceMethod yX12_isFun ∈ m_gW := m_t (m_tb8 (List.mem_of_getElem? (i := 40) rfl)) rfl
theorem in_8_47 : Cond.instanceMethod yX12_refuse ∈ m_gW := m_t (m_tb8 (List.mem_of_getElem? (i := 47) rfl)) rfl
theorem in_8_51 : Cond.instanceMethod yX12_calledBy ∈ m_gW := m_t (m_tb8 (List.mem_of_getElem? (i := 51) rfl)) rfl
theorem in_8_55 : Cond.instanceMethod yX12_isLeft ∈ m_gW := m_t (m_tb8 (List.mem_of_getElem? (i := 55) rfl)) rfl
theorem in_8_58 : Cond.instanceMethod yX12_points ∈ m_gW := m_t (m_tb8 (List.mem_of_getElem? (i := 58) rfl)) rfl
theorem in_8_62 : Cond.instanceMethod yX12_region ∈ m_gW := m_t (m_tb8 (List.mem_of_getElem? (i := 62) rfl)) rfl
theorem in_8_67 : Cond.instanceMethod yX12_isRegion ∈ m_gW := m_t (m_tb8 (List.mem_of_getElem? (i := 67) rfl)) rfl
theorem in_8_71 : Cond.instanceMethod yX12_ownersOf ∈ m_gW := m_t (m_tb8 (List.mem_of_getElem? (i := 71) rfl)) rfl
theorem in_8_75 : Cond.instanceMethod yX12_isFinite ∈ m_gW := m_t (m_tb8 (List.mem_of_getElem? (i := 75) rfl)) rfl
theorem in_8_79 : Cond.instanceMethod yX12_isOuter ∈ m_gW := m_t (m_tb8 (List.mem_of_getElem? (i := 79) rfl)) rfl
theorem in_8_83 : Cond.instanceMethod yX12_mainFun ∈ m_gW := m_t (m_tb8 (List.mem_of_getElem? (i := 83) rfl)) rfl
theorem in_8_90 : Cond.instanceMethod yX12_roomsOf ∈ m_gW := m_t (m_tb8 (List.mem_of_getElem? (i := 90) rfl)) rfl
theorem in_8_94 : Cond.instanceMethod yX12_cellsOf ∈ m_gW := m_t (m_tb8 (List.mem_of_getElem? (i := 94) rfl)) rfl
theorem in_8_97 : Cond.instanceMethod yX12_span ∈ m_gW := m_t (m_tb8 (List.mem_of_getElem? (i := 97) rfl)) rfl
theorem in_8_101 : Cond.instanceMethod yX12_undo ∈ m_gW := m_t (m_tb8 (List.mem_of_getElem? (i := 101) rfl)) rfl
theorem in_8_106 : Cond.instanceMethod yX12_comeBack ∈ m_gW := m_t (m_tb8 (List.mem_of_getElem? (i := 106) rfl)) rfl
theorem in_8_109 : Cond.instanceMethod yX12_load ∈ m_gW := m_t (m_tb8 (List.mem_of_getElem? (i := 109) rfl)) rfl
theorem in_8_114 : Cond.instanceMethod yX12_canLoad ∈ m_gW := m_t (m_tb8 (List.mem_of_getElem? (i := 114) rfl)) rfl
theorem in_8_118 : Cond.instanceMethod yX12_snap ∈ m_gW := m_t (m_tb8 (List.mem_of_getElem? (i := 118) rfl)) rfl
theorem in_8_122 : Cond.instanceMethod yX12_save ∈ m_gW := m_t (m_tb8 (List.mem_of_getElem? (i := 122) rfl)) rfl
theorem in_8_126 : Cond.instanceMethod yX12_loads ∈ m_gW := m_t (m_tb8 (List.mem_of_getElem? (i := 126) rfl)) rfl
theorem in_8_130 : Cond.instanceMethod yX12_makeRoom ∈ m_gW := m_t (m_tb8 (List.mem_of_getElem? (i := 130) rfl)) rfl
theorem in_8_134 : Cond.instanceMethod yX12_pushFrame ∈ m_gW := m_t (m_tb8 (List.mem_of_getElem? (i := 134) rfl)) rfl
theorem in_8_138 : Cond.instanceMethod yX12_setVar ∈ m_gW := m_t (m_tb8 (List.mem_of_getElem? (i := 138) rfl)) rfl
theorem in_8_142 : Cond.instanceMethod yX12_slot ∈ m_gW := m_t (m_tb8 (List.mem_of_getElem? (i := 142) rfl)) rfl
theorem in_8_145 : Cond.instanceMethod yX12_steps ∈ m_gW := m_t (m_tb8 (List.mem_of_getElem? (i := 145) rfl)) rfl
theorem in_8_150 : Cond.instanceMethod yX12_oneStep ∈ m_gW := m_t (m_tb8 (List.mem_of_getElem? (i := 150) rfl)) rfl
theorem in_8_154 : Cond.instanceMethod yX12_funOf ∈ m_gW := m_t (m_tb8 (List.mem_of_getElem? (i := 154) rfl)) rfl
theorem in_8_158 : Cond.instanceMethod yX12_whyStop ∈ m_gW := m_t (m_tb8 (List.mem_of_getElem? (i := 158) rfl)) rfl
theorem in_8_162 : Cond.instanceMethod yX12_lineOf ∈ m_gW := m_t (m_tb8 (List.mem_of_getElem? (i := 162) rfl)) rfl
theorem in_8_166 : Cond.instanceMethod yX12_kindAt ∈ m_gW := m_t (m_tb8 (List.mem_of_getElem? (i := 166) rfl)) rfl
theorem in_8_170 : Cond.instanceMethod yX12_calls ∈ m_gW := m_t (m_tb8 (List.mem_of_getElem? (i := 170) rfl)) rfl
theorem in_8_174 : Cond.instanceMethod yX12_valueAt ∈ m_gW := m_t (m_tb8 (List.mem_of_getElem? (i := 174) rfl)) rfl
theorem in_8_178 : Cond.instanceMethod yX12_goesAhead ∈ m_gW := m_t (m_tb8 (List.mem_of_getElem? (i := 178) rfl)) rfl
theorem in_8_182 : Cond.instanceMethod yX12_does ∈ m_gW := m_t (m_tb8 (List.mem_of_getElem? (i := 182) rfl)) rfl
theorem in_8_186 : Cond.instanceMethod yX12_gives ∈ m_gW := m_t (m_tb8 (List.mem_of_getElem? (i := 186) rfl)) rfl
theorem in_8_190 : Cond.instanceMethod yX12_frees ∈ m_gW := m_t (m_tb8 (List.mem_of_getElem? (i := 190) rfl)) rfl
theorem in_8_194 : Cond.instanceMethod yX12_latestRoom ∈ m_gW := m_t (m_tb8 (List.mem_of_getElem? (i := 194) rfl)) rfl
theorem in_8_198 : Cond.instanceMethod yX12_freeRoom ∈ m_gW := m_t (m_tb8 (List.mem_of_getElem? (i := 198) rfl)) rfl
theorem in_8_202 : Cond.instanceMethod yX12_givesAt ∈ m_gW := m_t (m_tb8 (List.mem_of_getElem? (i := 202) rfl)) rfl
theorem in_8_206 : Cond.instanceMethod yX12_layCell ∈ m_gW := m_t (m_tb8 (List.mem_of_getElem? (i := 206) rfl)) rfl
theorem in_8_210 : Cond.instanceMethod yX12_callsFun ∈ m_gW := m_t (m_tb8 (List.mem_of_getElem? (i := 210) rfl)) rfl
theorem in_8_213 : Cond.instanceMethod yX12_now ∈ m_gW := m_t (m_tb8 (List.mem_of_getElem? (i := 213) rfl)) rfl
theorem in_8_217 : Cond.instanceMethod yX12_kind ∈ m_gW := m_t (m_tb8 (List.mem_of_getElem? (i := 217) rfl)) rfl
theorem in_8_222 : Cond.instanceMethod yX12_isVar ∈ m_gW := m_t (m_tb8 (List.mem_of_getElem? (i := 222) rfl)) rfl
theorem in_8_225 : Cond.instanceMethod yX12_value ∈ m_gW := m_t (m_tb8 (List.mem_of_getElem? (i := 225) rfl)) rfl
theorem in_8_229 : Cond.instanceMethod yX12_cell ∈ m_gW := m_t (m_tb8 (List.mem_of_getElem? (i := 229) rfl)) rfl
theorem in_8_234 : Cond.instanceMethod yX12_isCell ∈ m_gW := m_t (m_tb8 (List.mem_of_getElem? (i := 234) rfl)) rfl
theorem in_8_237 : Cond.instanceMethod yX12_in ∈ m_gW := m_t (m_tb8 (List.mem_of_getElem? (i := 237) rfl)) rfl
theorem in_9_1 : Cond.instanceMethod yX12_gave ∈ m_gW := m_t (m_tb9 (List.mem_of_getElem? (i := 1) rfl)) rfl
theorem in_9_5 : Cond.instanceMethod yX12_result ∈ m_gW := m_t (m_tb9 (List.mem_of_getElem? (i := 5) rfl)) rfl
theorem in_9_9 : Cond.instanceMethod yX12_room ∈ m_gW := m_t (m_tb9 (List.mem_of_getElem? (i := 9) rfl)) rfl
theorem in_9_13 : Cond.instanceMethod yX12_roomful ∈ m_gW := m_t (m_tb9 (List.mem_of_getElem? (i := 13) rfl)) rfl
theorem in_9_17 : Cond.instanceMethod yX12_reached ∈ m_gW := m_t (m_tb9 (List.mem_of_getElem? (i := 17) rfl)) rfl
theorem in_9_22 : Cond.instanceMethod yX12_markReached ∈ m_gW := m_t (m_tb9 (List.mem_of_getElem? (i := 22) rfl)) rfl
theorem in_9_26 : Cond.instanceMethod yX12_comesTo ∈ m_gW := m_t (m_tb9 (List.mem_of_getElem? (i := 26) rfl)) rfl
theorem in_9_29 : Cond.instanceMethod yX12_isReached ∈ m_gW := m_t (m_tb9 (List.mem_of_getElem? (i := 29) rfl)) rfl
theorem in_9_33 : Cond.instanceMethod yX12_drag ∈ m_gW := m_t (m_tb9 (List.mem_of_getElem? (i := 33) rfl)) rfl
theorem in_9_38 : Cond.instanceMethod yX12_dragNow ∈ m_gW := m_t (m_tb9 (List.mem_of_getElem? (i := 38) rfl)) rfl
theorem in_9_41 : Cond.instanceMethod yX12_run ∈ m_gW := m_t (m_tb9 (List.mem_of_getElem? (i := 41) rfl)) rfl
theorem in_9_45 : Cond.instanceMethod yX12_ran ∈ m_gW := m_t (m_tb9 (List.mem_of_getElem? (i := 45) rfl)) rfl
theorem in_9_49 : Cond.instanceMethod yX12_odds ∈ m_gW := m_t (m_tb9 (List.mem_of_getElem? (i := 49) rfl)) rfl
theorem in_9_54 : Cond.instanceMethod yX12_ends ∈ m_gW := m_t (m_tb9 (List.mem_of_getElem? (i := 54) rfl)) rfl
theorem in_9_58 : Cond.instanceMethod yX12_draw ∈ m_gW := m_t (m_tb9 (List.mem_of_getElem? (i := 58) rfl)) rfl
theorem in_9_62 : Cond.instanceMethod yX12_sentence ∈ m_gW := m_t (m_tb9 (List.mem_of_getElem? (i := 62) rfl)) rfl
theorem in_9_67 : Cond.instanceMethod yX12_readOr ∈ m_gW := m_t (m_tb9 (List.mem_of_getElem? (i := 67) rfl)) rfl
theorem in_9_71 : Cond.instanceMethod yX12_readAnd ∈ m_gW := m_t (m_tb9 (List.mem_of_getElem? (i := 71) rfl)) rfl
theorem in_9_75 : Cond.instanceMethod yX12_readSaid ∈ m_gW := m_t (m_tb9 (List.mem_of_getElem? (i := 75) rfl)) rfl
theorem in_9_79 : Cond.instanceMethod yX12_readBracket ∈ m_gW := m_t (m_tb9 (List.mem_of_getElem? (i := 79) rfl)) rfl
theorem in_9_83 : Cond.instanceMethod yX12_readNot ∈ m_gW := m_t (m_tb9 (List.mem_of_getElem? (i := 83) rfl)) rfl
theorem in_9_87 : Cond.instanceMethod yX12_saysOne ∈ m_gW := m_t (m_tb9 (List.mem_of_getElem? (i := 87) rfl)) rfl
theorem in_9_91 : Cond.instanceMethod yX12_readOf ∈ m_gW := m_t (m_tb9 (List.mem_of_getElem? (i := 91) rfl)) rfl
theorem in_9_95 : Cond.instanceMethod yX12_readFunName ∈ m_gW := m_t (m_tb9 (List.mem_of_getElem? (i := 95) rfl)) rfl
theorem in_9_99 : Cond.instanceMethod yX12_readCompare ∈ m_gW := m_t (m_tb9 (List.mem_of_getElem? (i := 99) rfl)) rfl
theorem in_9_103 : Cond.instanceMethod yX12_readNumber ∈ m_gW := m_t (m_tb9 (List.mem_of_getElem? (i := 103) rfl)) rfl
theorem in_9_106 : Cond.instanceMethod yX12_said ∈ m_gW := m_t (m_tb9 (List.mem_of_getElem? (i := 106) rfl)) rfl
theorem in_9_111 : Cond.instanceMethod yX12_holds ∈ m_gW := m_t (m_tb9 (List.mem_of_getElem? (i := 111) rfl)) rfl
theorem in_9_114 : Cond.instanceMethod yX12_image ∈ m_gW := m_t (m_tb9 (List.mem_of_getElem? (i := 114) rfl)) rfl
theorem in_9_118 : Cond.instanceMethod yX12_restore ∈ m_gW := m_t (m_tb9 (List.mem_of_getElem? (i := 118) rfl)) rfl
theorem in_9_122 : Cond.instanceMethod yX12_count ∈ m_gW := m_t (m_tb9 (List.mem_of_getElem? (i := 122) rfl)) rfl
theorem in_9_127 : Cond.instanceMethod yX12_finiteMany ∈ m_gW := m_t (m_tb9 (List.mem_of_getElem? (i := 127) rfl)) rfl
theorem in_1_194 : Cond.static yJ9_max_7cf53 ∈ m_gW := m_t (m_tb1 (List.mem_of_getElem? (i := 194) rfl)) rfl
theorem in_1_216 : Cond.static yJ1_charAt_3b067 ∈ m_gW := m_t (m_tb1 (List.mem_of_getElem? (i := 216) rfl)) rfl
theorem in_1_219 : Cond.static yJ0_checkIndex_df160 ∈ m_gW := m_t (m_tb1 (List.mem_of_getElem? (i := 219) rfl)) rfl
theorem in_1_224 : Cond.static yJ3_checkIndex_8e157 ∈ m_gW := m_t (m_tb1 (List.mem_of_getElem? (i := 224) rfl)) rfl
theorem in_1_227 : Cond.static yJ2_charAt_3b067 ∈ m_gW := m_t (m_tb1 (List.mem_of_getElem? (i := 227) rfl)) rfl
theorem in_1_230 : Cond.static yJ2_checkIndex_2214a ∈ m_gW := m_t (m_tb1 (List.mem_of_getElem? (i := 230) rfl)) rfl
theorem in_1_233 : Cond.static yJ2_length_9d52b ∈ m_gW := m_t (m_tb1 (List.mem_of_getElem? (i := 233) rfl)) rfl
theorem in_1_237 : Cond.static yJ2_getChar_3b067 ∈ m_gW := m_t (m_tb1 (List.mem_of_getElem? (i := 237) rfl)) rfl
theorem in_2_6 : Cond.static yX9_withLetter ∈ m_gW := m_t (m_tb2 (List.mem_of_getElem? (i := 6) rfl)) rfl
theorem in_2_174 : Cond.static yJ7_fill_53178 ∈ m_gW := m_t (m_tb2 (List.mem_of_getElem? (i := 174) rfl)) rfl
theorem in_3_146 : Cond.static yJ9_min_7cf53 ∈ m_gW := m_t (m_tb3 (List.mem_of_getElem? (i := 146) rfl)) rfl
theorem in_3_153 : Cond.static yX9_isLetter ∈ m_gW := m_t (m_tb3 (List.mem_of_getElem? (i := 153) rfl)) rfl
theorem in_3_156 : Cond.static yX9_isDigit ∈ m_gW := m_t (m_tb3 (List.mem_of_getElem? (i := 156) rfl)) rfl
theorem in_4_22 : Cond.static yX5_nodeOf ∈ m_gW := m_t (m_tb4 (List.mem_of_getElem? (i := 22) rfl)) rfl
theorem in_4_25 : Cond.static yX5_operandNode ∈ m_gW := m_t (m_tb4 (List.mem_of_getElem? (i := 25) rfl)) rfl
theorem in_4_139 : Cond.static yJ6_bitCount_0f7a4 ∈ m_gW := m_t (m_tb4 (List.mem_of_getElem? (i := 139) rfl)) rfl
theorem in_4_149 : Cond.static arraycopyName ∈ m_gW := m_t (m_tb4 (List.mem_of_getElem? (i := 149) rfl)) rfl
theorem in_6_60 : Cond.static yL_fun ∈ m_gW := m_t (m_tb6 (List.mem_of_getElem? (i := 60) rfl)) rfl
theorem in_6_142 : Cond.static yL_value ∈ m_gW := m_t (m_tb6 (List.mem_of_getElem? (i := 142) rfl)) rfl
theorem in_6_149 : Cond.static yL_in ∈ m_gW := m_t (m_tb6 (List.mem_of_getElem? (i := 149) rfl)) rfl
theorem in_6_156 : Cond.static yL_result ∈ m_gW := m_t (m_tb6 (List.mem_of_getElem? (i := 156) rfl)) rfl
theorem in_7_1 : Cond.static yX12_has ∈ m_gW := m_t (m_tb7 (List.mem_of_getElem? (i := 1) rfl)) rfl
theorem in_7_186 : Cond.static yX12_isLetter ∈ m_gW := m_t (m_tb7 (List.mem_of_getElem? (i := 186) rfl)) rfl
theorem in_7_189 : Cond.static yX12_isDigit ∈ m_gW := m_t (m_tb7 (List.mem_of_getElem? (i := 189) rfl)) rfl
theorem in_7_202 : Cond.static yX12_wordOf ∈ m_gW := m_t (m_tb7 (List.mem_of_getElem? (i := 202) rfl)) rfl
theorem in_7_205 : Cond.static yX12_spelt ∈ m_gW := m_t (m_tb7 (List.mem_of_getElem? (i := 205) rfl)) rfl
theorem in_7_228 : Cond.static yX12_findIn ∈ m_gW := m_t (m_tb7 (List.mem_of_getElem? (i := 228) rfl)) rfl
theorem in_8_43 : Cond.static yX12_isIn ∈ m_gW := m_t (m_tb8 (List.mem_of_getElem? (i := 43) rfl)) rfl
theorem in_8_86 : Cond.static yX12_bits ∈ m_gW := m_t (m_tb8 (List.mem_of_getElem? (i := 86) rfl)) rfl
theorem in_4_150 : Cond.native arraycopyName ∈ m_gW := m_t (m_tb4 (List.mem_of_getElem? (i := 150) rfl)) rfl
theorem in_1_199 : Cond.selects RJ0 yJ0_length_8abf5 yJ0_length_8abf5 ∈ m_gW := m_t (m_tb1 (List.mem_of_getElem? (i := 199) rfl)) rfl
theorem in_1_203 : Cond.selects RJ0 yJ0_coder_7d493 yJ0_coder_7d493 ∈ m_gW := m_t (m_tb1 (List.mem_of_getElem? (i := 203) rfl)) rfl
theorem in_1_209 : Cond.selects RJ0 yJ0_charAt_5068e yJ0_charAt_5068e ∈ m_gW := m_t (m_tb1 (List.mem_of_getElem? (i := 209) rfl)) rfl
theorem in_1_213 : Cond.selects RJ0 yJ0_isLatin1_aae02 yJ0_isLatin1_aae02 ∈ m_gW := m_t (m_tb1 (List.mem_of_getElem? (i := 213) rfl)) rfl
theorem in_3_115 : Cond.selects RX11 yX11_feed yX11_feed ∈ m_gW := m_t (m_tb3 (List.mem_of_getElem? (i := 115) rfl)) rfl
theorem in_3_123 : Cond.selects RX11 yX11_end yX11_end ∈ m_gW := m_t (m_tb3 (List.mem_of_getElem? (i := 123) rfl)) rfl
theorem in_3_127 : Cond.selects RX11 yX11_program yX11_program ∈ m_gW := m_t (m_tb3 (List.mem_of_getElem? (i := 127) rfl)) rfl
theorem in_3_135 : Cond.selects RX4 yX4_readsAll yX4_readsAll ∈ m_gW := m_t (m_tb3 (List.mem_of_getElem? (i := 135) rfl)) rfl
theorem in_3_139 : Cond.selects RX3 yX3_clear yX3_clear ∈ m_gW := m_t (m_tb3 (List.mem_of_getElem? (i := 139) rfl)) rfl
theorem in_3_143 : Cond.selects RX9 yX9_open yX9_open ∈ m_gW := m_t (m_tb3 (List.mem_of_getElem? (i := 143) rfl)) rfl
theorem in_3_172 : Cond.selects RX9 yX9_advance yX9_advance ∈ m_gW := m_t (m_tb3 (List.mem_of_getElem? (i := 172) rfl)) rfl
theorem in_3_184 : Cond.selects RX9 yX9_failsBy yX9_failsBy ∈ m_gW := m_t (m_tb3 (List.mem_of_getElem? (i := 184) rfl)) rfl
theorem in_3_189 : Cond.selects RX3 yX3_funOf yX3_funOf ∈ m_gW := m_t (m_tb3 (List.mem_of_getElem? (i := 189) rfl)) rfl
theorem in_3_193 : Cond.selects RX3 yX3_openFun yX3_openFun ∈ m_gW := m_t (m_tb3 (List.mem_of_getElem? (i := 193) rfl)) rfl
theorem in_3_213 : Cond.selects RX9 yX9_takesKeyword yX9_takesKeyword ∈ m_gW := m_t (m_tb3 (List.mem_of_getElem? (i := 213) rfl)) rfl
theorem in_3_230 : Cond.selects RX3 yX3_argumentCount yX3_argumentCount ∈ m_gW := m_t (m_tb3 (List.mem_of_getElem? (i := 230) rfl)) rfl
theorem in_3_238 : Cond.selects RX3 yX3_closeLine yX3_closeLine ∈ m_gW := m_t (m_tb3 (List.mem_of_getElem? (i := 238) rfl)) rfl
theorem in_4_2 : Cond.selects RX9 yX9_takesSign yX9_takesSign ∈ m_gW := m_t (m_tb4 (List.mem_of_getElem? (i := 2) rfl)) rfl
theorem in_4_6 : Cond.selects RX5 yX5_findAll yX5_findAll ∈ m_gW := m_t (m_tb4 (List.mem_of_getElem? (i := 6) rfl)) rfl
theorem in_4_19 : Cond.selects RX3 yX3_varOfLine yX3_varOfLine ∈ m_gW := m_t (m_tb4 (List.mem_of_getElem? (i := 19) rfl)) rfl
theorem in_4_29 : Cond.selects RX3 yX3_operandAt yX3_operandAt ∈ m_gW := m_t (m_tb4 (List.mem_of_getElem? (i := 29) rfl)) rfl
theorem in_4_57 : Cond.selects RX3 yX3_resultOf yX3_resultOf ∈ m_gW := m_t (m_tb4 (List.mem_of_getElem? (i := 57) rfl)) rfl
theorem in_4_61 : Cond.selects RX3 yX3_varCount yX3_varCount ∈ m_gW := m_t (m_tb4 (List.mem_of_getElem? (i := 61) rfl)) rfl
theorem in_4_65 : Cond.selects RX3 yX3_elseSlot yX3_elseSlot ∈ m_gW := m_t (m_tb4 (List.mem_of_getElem? (i := 65) rfl)) rfl
theorem in_4_83 : Cond.selects RX6 yX6_derive yX6_derive ∈ m_gW := m_t (m_tb4 (List.mem_of_getElem? (i := 83) rfl)) rfl
theorem in_4_91 : Cond.selects RX6 yX6_reachOf yX6_reachOf ∈ m_gW := m_t (m_tb4 (List.mem_of_getElem? (i := 91) rfl)) rfl
theorem in_4_95 : Cond.selects RX6 yX6_has yX6_has ∈ m_gW := m_t (m_tb4 (List.mem_of_getElem? (i := 95) rfl)) rfl
theorem in_4_105 : Cond.selects RX6 yX6_pointedBy yX6_pointedBy ∈ m_gW := m_t (m_tb4 (List.mem_of_getElem? (i := 105) rfl)) rfl
theorem in_4_115 : Cond.selects RX6 yX6_isOwned yX6_isOwned ∈ m_gW := m_t (m_tb4 (List.mem_of_getElem? (i := 115) rfl)) rfl
theorem in_4_127 : Cond.selects RX6 yX6_reachOfVar yX6_reachOfVar ∈ m_gW := m_t (m_tb4 (List.mem_of_getElem? (i := 127) rfl)) rfl
theorem in_4_131 : Cond.selects RX3 yX3_operandCount yX3_operandCount ∈ m_gW := m_t (m_tb4 (List.mem_of_getElem? (i := 131) rfl)) rfl
theorem in_4_146 : Cond.selects RX3 yX3_copyFrom yX3_copyFrom ∈ m_gW := m_t (m_tb4 (List.mem_of_getElem? (i := 146) rfl)) rfl
theorem in_4_153 : Cond.selects RX6 yX6_copyFrom yX6_copyFrom ∈ m_gW := m_t (m_tb4 (List.mem_of_getElem? (i := 153) rfl)) rfl
theorem in_4_158 : Cond.selects RX2 yX2_clear yX2_clear ∈ m_gW := m_t (m_tb4 (List.mem_of_getElem? (i := 158) rfl)) rfl
theorem in_4_162 : Cond.selects RX7 yX7_clear yX7_clear ∈ m_gW := m_t (m_tb4 (List.mem_of_getElem? (i := 162) rfl)) rfl
theorem in_4_166 : Cond.selects RX0 yX0_clear yX0_clear ∈ m_gW := m_t (m_tb4 (List.mem_of_getElem? (i := 166) rfl)) rfl
theorem in_4_170 : Cond.selects RX11 yX11_fault yX11_fault ∈ m_gW := m_t (m_tb4 (List.mem_of_getElem? (i := 170) rfl)) rfl
theorem in_4_174 : Cond.selects RX11 yX11_points yX11_points ∈ m_gW := m_t (m_tb4 (List.mem_of_getElem? (i := 174) rfl)) rfl
theorem in_4_178 : Cond.selects RX3 yX3_hasVar yX3_hasVar ∈ m_gW := m_t (m_tb4 (List.mem_of_getElem? (i := 178) rfl)) rfl
theorem in_4_182 : Cond.selects RX3 yX3_hasFun yX3_hasFun ∈ m_gW := m_t (m_tb4 (List.mem_of_getElem? (i := 182) rfl)) rfl
theorem in_4_187 : Cond.selects RX11 yX11_region yX11_region ∈ m_gW := m_t (m_tb4 (List.mem_of_getElem? (i := 187) rfl)) rfl
theorem in_4_192 : Cond.selects RX6 yX6_isFinite yX6_isFinite ∈ m_gW := m_t (m_tb4 (List.mem_of_getElem? (i := 192) rfl)) rfl
theorem in_4_196 : Cond.selects RX2 yX2_roomsOf yX2_roomsOf ∈ m_gW := m_t (m_tb4 (List.mem_of_getElem? (i := 196) rfl)) rfl
theorem in_4_200 : Cond.selects RX2 yX2_cellsOf yX2_cellsOf ∈ m_gW := m_t (m_tb4 (List.mem_of_getElem? (i := 200) rfl)) rfl
theorem in_4_204 : Cond.selects RX2 yX2_hasCell yX2_hasCell ∈ m_gW := m_t (m_tb4 (List.mem_of_getElem? (i := 204) rfl)) rfl
theorem in_4_208 : Cond.selects RX2 yX2_regionOfCell yX2_regionOfCell ∈ m_gW := m_t (m_tb4 (List.mem_of_getElem? (i := 208) rfl)) rfl
theorem in_4_212 : Cond.selects RX2 yX2_hasRoom yX2_hasRoom ∈ m_gW := m_t (m_tb4 (List.mem_of_getElem? (i := 212) rfl)) rfl
theorem in_4_216 : Cond.selects RX11 yX11_span yX11_span ∈ m_gW := m_t (m_tb4 (List.mem_of_getElem? (i := 216) rfl)) rfl
theorem in_4_222 : Cond.selects RX11 yX11_load yX11_load ∈ m_gW := m_t (m_tb4 (List.mem_of_getElem? (i := 222) rfl)) rfl
theorem in_4_230 : Cond.selects RX0 yX0_keep yX0_keep ∈ m_gW := m_t (m_tb4 (List.mem_of_getElem? (i := 230) rfl)) rfl
theorem in_4_235 : Cond.selects RX2 yX2_copyFrom yX2_copyFrom ∈ m_gW := m_t (m_tb4 (List.mem_of_getElem? (i := 235) rfl)) rfl
theorem in_5_4 : Cond.selects RX2 yX2_begin yX2_begin ∈ m_gW := m_t (m_tb5 (List.mem_of_getElem? (i := 4) rfl)) rfl
theorem in_5_17 : Cond.selects RX2 yX2_setVar yX2_setVar ∈ m_gW := m_t (m_tb5 (List.mem_of_getElem? (i := 17) rfl)) rfl
theorem in_5_21 : Cond.selects RX3 yX3_parametersOfMain yX3_parametersOfMain ∈ m_gW := m_t (m_tb5 (List.mem_of_getElem? (i := 21) rfl)) rfl
theorem in_5_26 : Cond.selects RX11 yX11_steps yX11_steps ∈ m_gW := m_t (m_tb5 (List.mem_of_getElem? (i := 26) rfl)) rfl
theorem in_5_30 : Cond.selects RX2 yX2_makeStep yX2_makeStep ∈ m_gW := m_t (m_tb5 (List.mem_of_getElem? (i := 30) rfl)) rfl
theorem in_5_47 : Cond.selects RX3 yX3_conditionSlot yX3_conditionSlot ∈ m_gW := m_t (m_tb5 (List.mem_of_getElem? (i := 47) rfl)) rfl
theorem in_5_59 : Cond.selects RX3 yX3_leavesBy yX3_leavesBy ∈ m_gW := m_t (m_tb5 (List.mem_of_getElem? (i := 59) rfl)) rfl
theorem in_5_118 : Cond.selects RX11 yX11_now yX11_now ∈ m_gW := m_t (m_tb5 (List.mem_of_getElem? (i := 118) rfl)) rfl
theorem in_5_122 : Cond.selects RX2 yX2_latestFun yX2_latestFun ∈ m_gW := m_t (m_tb5 (List.mem_of_getElem? (i := 122) rfl)) rfl
theorem in_5_126 : Cond.selects RX2 yX2_latestLine yX2_latestLine ∈ m_gW := m_t (m_tb5 (List.mem_of_getElem? (i := 126) rfl)) rfl
theorem in_5_130 : Cond.selects RX11 yX11_kind yX11_kind ∈ m_gW := m_t (m_tb5 (List.mem_of_getElem? (i := 130) rfl)) rfl
theorem in_5_134 : Cond.selects RX2 yX2_hasVar yX2_hasVar ∈ m_gW := m_t (m_tb5 (List.mem_of_getElem? (i := 134) rfl)) rfl
theorem in_5_139 : Cond.selects RX11 yX11_cell yX11_cell ∈ m_gW := m_t (m_tb5 (List.mem_of_getElem? (i := 139) rfl)) rfl
theorem in_5_145 : Cond.selects RX11 yX11_gave yX11_gave ∈ m_gW := m_t (m_tb5 (List.mem_of_getElem? (i := 145) rfl)) rfl
theorem in_5_149 : Cond.selects RX2 yX2_resultKind yX2_resultKind ∈ m_gW := m_t (m_tb5 (List.mem_of_getElem? (i := 149) rfl)) rfl
theorem in_5_153 : Cond.selects RX11 yX11_room yX11_room ∈ m_gW := m_t (m_tb5 (List.mem_of_getElem? (i := 153) rfl)) rfl
theorem in_5_158 : Cond.selects RX11 yX11_roomful yX11_roomful ∈ m_gW := m_t (m_tb5 (List.mem_of_getElem? (i := 158) rfl)) rfl
theorem in_5_162 : Cond.selects RX2 yX2_cellsIn yX2_cellsIn ∈ m_gW := m_t (m_tb5 (List.mem_of_getElem? (i := 162) rfl)) rfl
theorem in_5_166 : Cond.selects RX11 yX11_reached yX11_reached ∈ m_gW := m_t (m_tb5 (List.mem_of_getElem? (i := 166) rfl)) rfl
theorem in_5_170 : Cond.selects RX1 yX1_countReached yX1_countReached ∈ m_gW := m_t (m_tb5 (List.mem_of_getElem? (i := 170) rfl)) rfl
theorem in_5_181 : Cond.selects RX11 yX11_isReached yX11_isReached ∈ m_gW := m_t (m_tb5 (List.mem_of_getElem? (i := 181) rfl)) rfl
theorem in_5_185 : Cond.selects RX11 yX11_drag yX11_drag ∈ m_gW := m_t (m_tb5 (List.mem_of_getElem? (i := 185) rfl)) rfl
theorem in_5_189 : Cond.selects RX11 yX11_run yX11_run ∈ m_gW := m_t (m_tb5 (List.mem_of_getElem? (i := 189) rfl)) rfl
theorem in_5_198 : Cond.selects RX11 yX11_ran yX11_ran ∈ m_gW := m_t (m_tb5 (List.mem_of_getElem? (i := 198) rfl)) rfl
theorem in_5_202 : Cond.selects RX11 yX11_odds yX11_odds ∈ m_gW := m_t (m_tb5 (List.mem_of_getElem? (i := 202) rfl)) rfl
theorem in_5_211 : Cond.selects RX11 yX11_undo yX11_undo ∈ m_gW := m_t (m_tb5 (List.mem_of_getElem? (i := 211) rfl)) rfl
theorem in_5_215 : Cond.selects RX0 yX0_takeBack yX0_takeBack ∈ m_gW := m_t (m_tb5 (List.mem_of_getElem? (i := 215) rfl)) rfl
theorem in_5_219 : Cond.selects RX11 yX11_sentence yX11_sentence ∈ m_gW := m_t (m_tb5 (List.mem_of_getElem? (i := 219) rfl)) rfl
theorem in_5_223 : Cond.selects RX8 yX8_readsAll yX8_readsAll ∈ m_gW := m_t (m_tb5 (List.mem_of_getElem? (i := 223) rfl)) rfl
theorem in_6_4 : Cond.selects RX7 yX7_put yX7_put ∈ m_gW := m_t (m_tb6 (List.mem_of_getElem? (i := 4) rfl)) rfl
theorem in_6_17 : Cond.selects RX7 yX7_copyFrom yX7_copyFrom ∈ m_gW := m_t (m_tb6 (List.mem_of_getElem? (i := 17) rfl)) rfl
theorem in_6_22 : Cond.selects RX11 yX11_said yX11_said ∈ m_gW := m_t (m_tb6 (List.mem_of_getElem? (i := 22) rfl)) rfl
theorem in_6_26 : Cond.selects RX7 yX7_holds yX7_holds ∈ m_gW := m_t (m_tb6 (List.mem_of_getElem? (i := 26) rfl)) rfl
theorem in_6_41 : Cond.selects RX11 yX11_image yX11_image ∈ m_gW := m_t (m_tb6 (List.mem_of_getElem? (i := 41) rfl)) rfl
theorem in_6_45 : Cond.selects RX10 yX10_copyFrom yX10_copyFrom ∈ m_gW := m_t (m_tb6 (List.mem_of_getElem? (i := 45) rfl)) rfl
theorem in_6_52 : Cond.selects RX11 yX11_restore yX11_restore ∈ m_gW := m_t (m_tb6 (List.mem_of_getElem? (i := 52) rfl)) rfl
theorem in_6_56 : Cond.selects RX11 yX11_count yX11_count ∈ m_gW := m_t (m_tb6 (List.mem_of_getElem? (i := 56) rfl)) rfl
theorem in_6_65 : Cond.selects RX11 yX11_fun yX11_fun ∈ m_gW := m_t (m_tb6 (List.mem_of_getElem? (i := 65) rfl)) rfl
theorem in_6_130 : Cond.selects RX3 yX3_calledBy yX3_calledBy ∈ m_gW := m_t (m_tb6 (List.mem_of_getElem? (i := 130) rfl)) rfl
theorem in_6_134 : Cond.selects RX3 yX3_isCall yX3_isCall ∈ m_gW := m_t (m_tb6 (List.mem_of_getElem? (i := 134) rfl)) rfl
theorem in_6_138 : Cond.selects RX3 yX3_endsWithLeavingCall yX3_endsWithLeavingCall ∈ m_gW := m_t (m_tb6 (List.mem_of_getElem? (i := 138) rfl)) rfl
theorem in_6_146 : Cond.selects RX11 yX11_value yX11_value ∈ m_gW := m_t (m_tb6 (List.mem_of_getElem? (i := 146) rfl)) rfl
theorem in_6_153 : Cond.selects RX11 yX11_in yX11_in ∈ m_gW := m_t (m_tb6 (List.mem_of_getElem? (i := 153) rfl)) rfl
theorem in_6_160 : Cond.selects RX11 yX11_result yX11_result ∈ m_gW := m_t (m_tb6 (List.mem_of_getElem? (i := 160) rfl)) rfl
theorem in_6_164 : Cond.selects RX12 yX12_thrown yX12_thrown ∈ m_gW := m_t (m_tb6 (List.mem_of_getElem? (i := 164) rfl)) rfl
theorem in_6_168 : Cond.selects RX12 yX12_feed yX12_feed ∈ m_gW := m_t (m_tb6 (List.mem_of_getElem? (i := 168) rfl)) rfl
theorem in_6_177 : Cond.selects RX12 yX12_end yX12_end ∈ m_gW := m_t (m_tb6 (List.mem_of_getElem? (i := 177) rfl)) rfl
theorem in_7_171 : Cond.selects RX12 yX12_program yX12_program ∈ m_gW := m_t (m_tb7 (List.mem_of_getElem? (i := 171) rfl)) rfl
theorem in_8_32 : Cond.selects RX12 yX12_fault yX12_fault ∈ m_gW := m_t (m_tb8 (List.mem_of_getElem? (i := 32) rfl)) rfl
theorem in_8_36 : Cond.selects RX12 yX12_fun yX12_fun ∈ m_gW := m_t (m_tb8 (List.mem_of_getElem? (i := 36) rfl)) rfl
theorem in_8_59 : Cond.selects RX12 yX12_points yX12_points ∈ m_gW := m_t (m_tb8 (List.mem_of_getElem? (i := 59) rfl)) rfl
theorem in_8_63 : Cond.selects RX12 yX12_region yX12_region ∈ m_gW := m_t (m_tb8 (List.mem_of_getElem? (i := 63) rfl)) rfl
theorem in_8_98 : Cond.selects RX12 yX12_span yX12_span ∈ m_gW := m_t (m_tb8 (List.mem_of_getElem? (i := 98) rfl)) rfl
theorem in_8_102 : Cond.selects RX12 yX12_undo yX12_undo ∈ m_gW := m_t (m_tb8 (List.mem_of_getElem? (i := 102) rfl)) rfl
theorem in_8_110 : Cond.selects RX12 yX12_load yX12_load ∈ m_gW := m_t (m_tb8 (List.mem_of_getElem? (i := 110) rfl)) rfl
theorem in_8_146 : Cond.selects RX12 yX12_steps yX12_steps ∈ m_gW := m_t (m_tb8 (List.mem_of_getElem? (i := 146) rfl)) rfl
theorem in_8_214 : Cond.selects RX12 yX12_now yX12_now ∈ m_gW := m_t (m_tb8 (List.mem_of_getElem? (i := 214) rfl)) rfl
theorem in_8_218 : Cond.selects RX12 yX12_kind yX12_kind ∈ m_gW := m_t (m_tb8 (List.mem_of_getElem? (i := 218) rfl)) rfl
theorem in_8_226 : Cond.selects RX12 yX12_value yX12_value ∈ m_gW := m_t (m_tb8 (List.mem_of_getElem? (i := 226) rfl)) rfl
theorem in_8_230 : Cond.selects RX12 yX12_cell yX12_cell ∈ m_gW := m_t (m_tb8 (List.mem_of_getElem? (i := 230) rfl)) rfl
theorem in_8_238 : Cond.selects RX12 yX12_in yX12_in ∈ m_gW := m_t (m_tb8 (List.mem_of_getElem? (i := 238) rfl)) rfl
theorem in_9_2 : Cond.selects RX12 yX12_gave yX12_gave ∈ m_gW := m_t (m_tb9 (List.mem_of_getElem? (i := 2) rfl)) rfl
theorem in_9_6 : Cond.selects RX12 yX12_result yX12_result ∈ m_gW := m_t (m_tb9 (List.mem_of_getElem? (i := 6) rfl)) rfl
theorem in_9_10 : Cond.selects RX12 yX12_room yX12_room ∈ m_gW := m_t (m_tb9 (List.mem_of_getElem? (i := 10) rfl)) rfl
theorem in_9_14 : Cond.selects RX12 yX12_roomful yX12_roomful ∈ m_gW := m_t (m_tb9 (List.mem_of_getElem? (i := 14) rfl)) rfl
theorem in_9_18 : Cond.selects RX12 yX12_reached yX12_reached ∈ m_gW := m_t (m_tb9 (List.mem_of_getElem? (i := 18) rfl)) rfl
theorem in_9_30 : Cond.selects RX12 yX12_isReached yX12_isReached ∈ m_gW := m_t (m_tb9 (List.mem_of_getElem? (i := 30) rfl)) rfl
theorem in_9_34 : Cond.selects RX12 yX12_drag yX12_drag ∈ m_gW := m_t (m_tb9 (List.mem_of_getElem? (i := 34) rfl)) rfl
theorem in_9_42 : Cond.selects RX12 yX12_run yX12_run ∈ m_gW := m_t (m_tb9 (List.mem_of_getElem? (i := 42) rfl)) rfl
theorem in_9_46 : Cond.selects RX12 yX12_ran yX12_ran ∈ m_gW := m_t (m_tb9 (List.mem_of_getElem? (i := 46) rfl)) rfl
theorem in_9_50 : Cond.selects RX12 yX12_odds yX12_odds ∈ m_gW := m_t (m_tb9 (List.mem_of_getElem? (i := 50) rfl)) rfl
theorem in_9_63 : Cond.selects RX12 yX12_sentence yX12_sentence ∈ m_gW := m_t (m_tb9 (List.mem_of_getElem? (i := 63) rfl)) rfl
theorem in_9_107 : Cond.selects RX12 yX12_said yX12_said ∈ m_gW := m_t (m_tb9 (List.mem_of_getElem? (i := 107) rfl)) rfl
theorem in_9_115 : Cond.selects RX12 yX12_image yX12_image ∈ m_gW := m_t (m_tb9 (List.mem_of_getElem? (i := 115) rfl)) rfl
theorem in_9_119 : Cond.selects RX12 yX12_restore yX12_restore ∈ m_gW := m_t (m_tb9 (List.mem_of_getElem? (i := 119) rfl)) rfl
theorem in_9_123 : Cond.selects RX12 yX12_count yX12_count ∈ m_gW := m_t (m_tb9 (List.mem_of_getElem? (i := 123) rfl)) rfl
theorem in_1_119 : Cond.arrayClass .byte ∈ m_gW := m_t (m_tb1 (List.mem_of_getElem? (i := 119) rfl)) rfl
theorem in_1_120 : Cond.arrayClass .long ∈ m_gW := m_t (m_tb1 (List.mem_of_getElem? (i := 120) rfl)) rfl
theorem in_1_121 : Cond.arrayClass .int ∈ m_gW := m_t (m_tb1 (List.mem_of_getElem? (i := 121) rfl)) rfl
theorem in_2_125 : Cond.arrayClass .boolean ∈ m_gW := m_t (m_tb2 (List.mem_of_getElem? (i := 125) rfl)) rfl
theorem is_0 : Cond.selects RX11 yX11_putBytes yX11_putBytes ∈ m_gW := m_in (List.mem_append_left _ (List.mem_of_getElem? (i := 0) rfl)) rfl
theorem is_1 : Cond.selects RX11 yX11_takeTape yX11_takeTape ∈ m_gW := m_in (List.mem_append_left _ (List.mem_of_getElem? (i := 1) rfl)) rfl
theorem is_2 : Cond.selects RX9 yX9_readPiece yX9_readPiece ∈ m_gW := m_in (List.mem_append_left _ (List.mem_of_getElem? (i := 2) rfl)) rfl
theorem is_3 : Cond.selects RX9 yX9_readLettersAndDigits yX9_readLettersAndDigits ∈ m_gW := m_in (List.mem_append_left _ (List.mem_of_getElem? (i := 3) rfl)) rfl
theorem is_4 : Cond.selects RX9 yX9_keywordOf yX9_keywordOf ∈ m_gW := m_in (List.mem_append_left _ (List.mem_of_getElem? (i := 4) rfl)) rfl
theorem is_5 : Cond.selects RX9 yX9_put yX9_put ∈ m_gW := m_in (List.mem_append_left _ (List.mem_of_getElem? (i := 5) rfl)) rfl
theorem is_6 : Cond.selects RX4 yX4_readsFun yX4_readsFun ∈ m_gW := m_in (List.mem_append_left _ (List.mem_of_getElem? (i := 6) rfl)) rfl
theorem is_7 : Cond.selects RX4 yX4_latestFunIsBare yX4_latestFunIsBare ∈ m_gW := m_in (List.mem_append_left _ (List.mem_of_getElem? (i := 7) rfl)) rfl
theorem is_8 : Cond.selects RX4 yX4_readsParameters yX4_readsParameters ∈ m_gW := m_in (List.mem_append_left _ (List.mem_of_getElem? (i := 8) rfl)) rfl
theorem is_9 : Cond.selects RX4 yX4_varOf yX4_varOf ∈ m_gW := m_in (List.mem_append_left _ (List.mem_of_getElem? (i := 9) rfl)) rfl
theorem is_10 : Cond.selects RX4 yX4_addVar yX4_addVar ∈ m_gW := m_in (List.mem_append_left _ (List.mem_of_getElem? (i := 10) rfl)) rfl
theorem is_11 : Cond.selects RX4 yX4_readsIs yX4_readsIs ∈ m_gW := m_in (List.mem_append_left _ (List.mem_of_getElem? (i := 11) rfl)) rfl
theorem is_12 : Cond.selects RX4 yX4_readsExpr yX4_readsExpr ∈ m_gW := m_in (List.mem_append_left _ (List.mem_of_getElem? (i := 12) rfl)) rfl
theorem is_13 : Cond.selects RX4 yX4_takesVars yX4_takesVars ∈ m_gW := m_in (List.mem_append_left _ (List.mem_of_getElem? (i := 13) rfl)) rfl
theorem is_14 : Cond.selects RX4 yX4_takesFun yX4_takesFun ∈ m_gW := m_in (List.mem_append_left _ (List.mem_of_getElem? (i := 14) rfl)) rfl
theorem is_15 : Cond.selects RX4 yX4_readsWhen yX4_readsWhen ∈ m_gW := m_in (List.mem_append_left _ (List.mem_of_getElem? (i := 15) rfl)) rfl
theorem is_16 : Cond.selects RX5 yX5_clear yX5_clear ∈ m_gW := m_in (List.mem_append_left _ (List.mem_of_getElem? (i := 16) rfl)) rfl
theorem is_17 : Cond.selects RX5 yX5_joinLine yX5_joinLine ∈ m_gW := m_in (List.mem_append_left _ (List.mem_of_getElem? (i := 17) rfl)) rfl
theorem is_18 : Cond.selects RX5 yX5_join yX5_join ∈ m_gW := m_in (List.mem_append_left _ (List.mem_of_getElem? (i := 18) rfl)) rfl
theorem is_19 : Cond.selects RX5 yX5_rootOf yX5_rootOf ∈ m_gW := m_in (List.mem_append_left _ (List.mem_of_getElem? (i := 19) rfl)) rfl
theorem is_20 : Cond.selects RX5 yX5_leftOf yX5_leftOf ∈ m_gW := m_in (List.mem_append_left _ (List.mem_of_getElem? (i := 20) rfl)) rfl
theorem is_21 : Cond.selects RX5 yX5_rootWithRegion yX5_rootWithRegion ∈ m_gW := m_in (List.mem_append_left _ (List.mem_of_getElem? (i := 21) rfl)) rfl
theorem is_22 : Cond.selects RX5 yX5_rightOf yX5_rightOf ∈ m_gW := m_in (List.mem_append_left _ (List.mem_of_getElem? (i := 22) rfl)) rfl
theorem is_23 : Cond.selects RX5 yX5_joinCall yX5_joinCall ∈ m_gW := m_in (List.mem_append_left _ (List.mem_of_getElem? (i := 23) rfl)) rfl
theorem is_24 : Cond.selects RX5 yX5_numberAll yX5_numberAll ∈ m_gW := m_in (List.mem_append_left _ (List.mem_of_getElem? (i := 24) rfl)) rfl
theorem is_25 : Cond.selects RX5 yX5_numberFrom yX5_numberFrom ∈ m_gW := m_in (List.mem_append_left _ (List.mem_of_getElem? (i := 25) rfl)) rfl
theorem is_26 : Cond.selects RX5 yX5_tellAll yX5_tellAll ∈ m_gW := m_in (List.mem_append_left _ (List.mem_of_getElem? (i := 26) rfl)) rfl
theorem is_27 : Cond.selects RX6 yX6_closeReach yX6_closeReach ∈ m_gW := m_in (List.mem_append_left _ (List.mem_of_getElem? (i := 27) rfl)) rfl
theorem is_28 : Cond.selects RX6 yX6_tellOwner yX6_tellOwner ∈ m_gW := m_in (List.mem_append_left _ (List.mem_of_getElem? (i := 28) rfl)) rfl
theorem is_29 : Cond.selects RX6 yX6_tellFilled yX6_tellFilled ∈ m_gW := m_in (List.mem_append_left _ (List.mem_of_getElem? (i := 29) rfl)) rfl
theorem is_30 : Cond.selects RX6 yX6_tellSpan yX6_tellSpan ∈ m_gW := m_in (List.mem_append_left _ (List.mem_of_getElem? (i := 30) rfl)) rfl
theorem is_31 : Cond.selects RX6 yX6_reachOfLine yX6_reachOfLine ∈ m_gW := m_in (List.mem_append_left _ (List.mem_of_getElem? (i := 31) rfl)) rfl
theorem is_32 : Cond.selects RX6 yX6_tellFinite yX6_tellFinite ∈ m_gW := m_in (List.mem_append_left _ (List.mem_of_getElem? (i := 32) rfl)) rfl
theorem is_33 : Cond.selects RX11 yX11_fitsMain yX11_fitsMain ∈ m_gW := m_in (List.mem_append_left _ (List.mem_of_getElem? (i := 33) rfl)) rfl
theorem is_34 : Cond.selects RX11 yX11_beginWithTape yX11_beginWithTape ∈ m_gW := m_in (List.mem_append_left _ (List.mem_of_getElem? (i := 34) rfl)) rfl
theorem is_35 : Cond.selects RX2 yX2_makeRooms yX2_makeRooms ∈ m_gW := m_in (List.mem_append_left _ (List.mem_of_getElem? (i := 35) rfl)) rfl
theorem is_36 : Cond.selects RX2 yX2_openFrame yX2_openFrame ∈ m_gW := m_in (List.mem_append_left _ (List.mem_of_getElem? (i := 36) rfl)) rfl
theorem is_37 : Cond.selects RX2 yX2_stopReason yX2_stopReason ∈ m_gW := m_in (List.mem_append_left _ (List.mem_of_getElem? (i := 37) rfl)) rfl
theorem is_38 : Cond.selects RX2 yX2_kindAt yX2_kindAt ∈ m_gW := m_in (List.mem_append_left _ (List.mem_of_getElem? (i := 38) rfl)) rfl
theorem is_39 : Cond.selects RX2 yX2_hasPairForNumber yX2_hasPairForNumber ∈ m_gW := m_in (List.mem_append_left _ (List.mem_of_getElem? (i := 39) rfl)) rfl
theorem is_40 : Cond.selects RX2 yX2_callsNow yX2_callsNow ∈ m_gW := m_in (List.mem_append_left _ (List.mem_of_getElem? (i := 40) rfl)) rfl
theorem is_41 : Cond.selects RX2 yX2_valueAt yX2_valueAt ∈ m_gW := m_in (List.mem_append_left _ (List.mem_of_getElem? (i := 41) rfl)) rfl
theorem is_42 : Cond.selects RX2 yX2_callBy yX2_callBy ∈ m_gW := m_in (List.mem_append_left _ (List.mem_of_getElem? (i := 42) rfl)) rfl
theorem is_43 : Cond.selects RX2 yX2_moveFrame yX2_moveFrame ∈ m_gW := m_in (List.mem_append_left _ (List.mem_of_getElem? (i := 43) rfl)) rfl
theorem is_44 : Cond.selects RX2 yX2_work yX2_work ∈ m_gW := m_in (List.mem_append_left _ (List.mem_of_getElem? (i := 44) rfl)) rfl
theorem is_45 : Cond.selects RX2 yX2_give yX2_give ∈ m_gW := m_in (List.mem_append_left _ (List.mem_of_getElem? (i := 45) rfl)) rfl
theorem is_46 : Cond.selects RX2 yX2_layCell yX2_layCell ∈ m_gW := m_in (List.mem_append_left _ (List.mem_of_getElem? (i := 46) rfl)) rfl
theorem is_47 : Cond.selects RX2 yX2_freeCell yX2_freeCell ∈ m_gW := m_in (List.mem_append_left _ (List.mem_of_getElem? (i := 47) rfl)) rfl
theorem is_48 : Cond.selects RX2 yX2_latestRoom yX2_latestRoom ∈ m_gW := m_in (List.mem_append_left _ (List.mem_of_getElem? (i := 48) rfl)) rfl
theorem is_49 : Cond.selects RX2 yX2_giveSide yX2_giveSide ∈ m_gW := m_in (List.mem_append_left _ (List.mem_of_getElem? (i := 49) rfl)) rfl
theorem is_50 : Cond.selects RX2 yX2_giveVar yX2_giveVar ∈ m_gW := m_in (List.mem_append_left _ (List.mem_of_getElem? (i := 50) rfl)) rfl
theorem is_51 : Cond.selects RX2 yX2_settle yX2_settle ∈ m_gW := m_in (List.mem_append_left _ (List.mem_of_getElem? (i := 51) rfl)) rfl
theorem is_52 : Cond.selects RX2 yX2_freeRooms yX2_freeRooms ∈ m_gW := m_in (List.mem_append_left _ (List.mem_of_getElem? (i := 52) rfl)) rfl
theorem is_53 : Cond.selects RX2 yX2_freeRoom yX2_freeRoom ∈ m_gW := m_in (List.mem_append_left _ (List.mem_of_getElem? (i := 53) rfl)) rfl
theorem is_54 : Cond.selects RX1 yX1_come yX1_come ∈ m_gW := m_in (List.mem_append_left _ (List.mem_of_getElem? (i := 54) rfl)) rfl
theorem is_55 : Cond.selects RX11 yX11_tellRan yX11_tellRan ∈ m_gW := m_in (List.mem_append_left _ (List.mem_of_getElem? (i := 55) rfl)) rfl
theorem is_56 : Cond.selects RX11 yX11_endsByDraws yX11_endsByDraws ∈ m_gW := m_in (List.mem_append_left _ (List.mem_of_getElem? (i := 56) rfl)) rfl
theorem is_57 : Cond.selects RX8 yX8_readsCond yX8_readsCond ∈ m_gW := m_in (List.mem_append_left _ (List.mem_of_getElem? (i := 57) rfl)) rfl
theorem is_58 : Cond.selects RX8 yX8_readsParts yX8_readsParts ∈ m_gW := m_in (List.mem_append_left _ (List.mem_of_getElem? (i := 58) rfl)) rfl
theorem is_59 : Cond.selects RX8 yX8_readsOne yX8_readsOne ∈ m_gW := m_in (List.mem_append_left _ (List.mem_of_getElem? (i := 59) rfl)) rfl
theorem is_60 : Cond.selects RX8 yX8_readsFunOf yX8_readsFunOf ∈ m_gW := m_in (List.mem_append_left _ (List.mem_of_getElem? (i := 60) rfl)) rfl
theorem is_61 : Cond.selects RX8 yX8_readsMeasure yX8_readsMeasure ∈ m_gW := m_in (List.mem_append_left _ (List.mem_of_getElem? (i := 61) rfl)) rfl
theorem is_62 : Cond.selects RX7 yX7_isTrue yX7_isTrue ∈ m_gW := m_in (List.mem_append_left _ (List.mem_of_getElem? (i := 62) rfl)) rfl
theorem is_63 : Cond.selects RX7 yX7_fits yX7_fits ∈ m_gW := m_in (List.mem_append_left _ (List.mem_of_getElem? (i := 63) rfl)) rfl
theorem is_65 : Cond.selects RX12 yX12_come yX12_come ∈ m_gW := m_in (List.mem_append_left _ (List.mem_of_getElem? (i := 65) rfl)) rfl
theorem is_66 : Cond.selects RX12 yX12_startSo yX12_startSo ∈ m_gW := m_in (List.mem_append_left _ (List.mem_of_getElem? (i := 66) rfl)) rfl
theorem is_67 : Cond.selects RX12 yX12_layRegions yX12_layRegions ∈ m_gW := m_in (List.mem_append_left _ (List.mem_of_getElem? (i := 67) rfl)) rfl
theorem is_68 : Cond.selects RX12 yX12_joinLine yX12_joinLine ∈ m_gW := m_in (List.mem_append_left _ (List.mem_of_getElem? (i := 68) rfl)) rfl
theorem is_69 : Cond.selects RX12 yX12_madeBy yX12_madeBy ∈ m_gW := m_in (List.mem_append_left _ (List.mem_of_getElem? (i := 69) rfl)) rfl
theorem is_70 : Cond.selects RX12 yX12_node yX12_node ∈ m_gW := m_in (List.mem_append_left _ (List.mem_of_getElem? (i := 70) rfl)) rfl
theorem is_71 : Cond.selects RX12 yX12_var yX12_var ∈ m_gW := m_in (List.mem_append_left _ (List.mem_of_getElem? (i := 71) rfl)) rfl
theorem is_72 : Cond.selects RX12 yX12_join yX12_join ∈ m_gW := m_in (List.mem_append_left _ (List.mem_of_getElem? (i := 72) rfl)) rfl
theorem is_73 : Cond.selects RX12 yX12_topOf yX12_topOf ∈ m_gW := m_in (List.mem_append_left _ (List.mem_of_getElem? (i := 73) rfl)) rfl
theorem is_74 : Cond.selects RX12 yX12_sideNode yX12_sideNode ∈ m_gW := m_in (List.mem_append_left _ (List.mem_of_getElem? (i := 74) rfl)) rfl
theorem is_75 : Cond.selects RX12 yX12_pointFrom yX12_pointFrom ∈ m_gW := m_in (List.mem_append_left _ (List.mem_of_getElem? (i := 75) rfl)) rfl
theorem is_76 : Cond.selects RX12 yX12_varsOf yX12_varsOf ∈ m_gW := m_in (List.mem_append_left _ (List.mem_of_getElem? (i := 76) rfl)) rfl
theorem is_77 : Cond.selects RX12 yX12_numberFrom yX12_numberFrom ∈ m_gW := m_in (List.mem_append_left _ (List.mem_of_getElem? (i := 77) rfl)) rfl
theorem is_78 : Cond.selects RX12 yX12_numbered yX12_numbered ∈ m_gW := m_in (List.mem_append_left _ (List.mem_of_getElem? (i := 78) rfl)) rfl
theorem is_79 : Cond.selects RX12 yX12_reachFrom yX12_reachFrom ∈ m_gW := m_in (List.mem_append_left _ (List.mem_of_getElem? (i := 79) rfl)) rfl
theorem is_80 : Cond.selects RX12 yX12_layFun yX12_layFun ∈ m_gW := m_in (List.mem_append_left _ (List.mem_of_getElem? (i := 80) rfl)) rfl
theorem is_81 : Cond.selects RX12 yX12_laySpans yX12_laySpans ∈ m_gW := m_in (List.mem_append_left _ (List.mem_of_getElem? (i := 81) rfl)) rfl
theorem is_82 : Cond.selects RX12 yX12_reachIn yX12_reachIn ∈ m_gW := m_in (List.mem_append_left _ (List.mem_of_getElem? (i := 82) rfl)) rfl
theorem is_83 : Cond.selects RX12 yX12_begin yX12_begin ∈ m_gW := m_in (List.mem_append_left _ (List.mem_of_getElem? (i := 83) rfl)) rfl
theorem is_84 : Cond.selects RX12 yX12_take yX12_take ∈ m_gW := m_in (List.mem_append_left _ (List.mem_of_getElem? (i := 84) rfl)) rfl
theorem is_85 : Cond.selects RX12 yX12_go yX12_go ∈ m_gW := m_in (List.mem_append_left _ (List.mem_of_getElem? (i := 85) rfl)) rfl
theorem is_86 : Cond.selects RX12 yX12_tapeAt yX12_tapeAt ∈ m_gW := m_in (List.mem_append_left _ (List.mem_of_getElem? (i := 86) rfl)) rfl
theorem is_87 : Cond.selects RX12 yX12_isWord yX12_isWord ∈ m_gW := m_in (List.mem_append_left _ (List.mem_of_getElem? (i := 87) rfl)) rfl
theorem is_88 : Cond.selects RX12 yX12_readFun yX12_readFun ∈ m_gW := m_in (List.mem_append_left _ (List.mem_of_getElem? (i := 88) rfl)) rfl
theorem is_89 : Cond.selects RX12 yX12_isBare yX12_isBare ∈ m_gW := m_in (List.mem_append_left _ (List.mem_of_getElem? (i := 89) rfl)) rfl
theorem is_90 : Cond.selects RX12 yX12_funNow yX12_funNow ∈ m_gW := m_in (List.mem_append_left _ (List.mem_of_getElem? (i := 90) rfl)) rfl
theorem is_91 : Cond.selects RX12 yX12_bad yX12_bad ∈ m_gW := m_in (List.mem_append_left _ (List.mem_of_getElem? (i := 91) rfl)) rfl
theorem is_92 : Cond.selects RX12 yX12_isName yX12_isName ∈ m_gW := m_in (List.mem_append_left _ (List.mem_of_getElem? (i := 92) rfl)) rfl
theorem is_93 : Cond.selects RX12 yX12_readParameter yX12_readParameter ∈ m_gW := m_in (List.mem_append_left _ (List.mem_of_getElem? (i := 93) rfl)) rfl
theorem is_94 : Cond.selects RX12 yX12_findVar yX12_findVar ∈ m_gW := m_in (List.mem_append_left _ (List.mem_of_getElem? (i := 94) rfl)) rfl
theorem is_95 : Cond.selects RX12 yX12_readIs yX12_readIs ∈ m_gW := m_in (List.mem_append_left _ (List.mem_of_getElem? (i := 95) rfl)) rfl
theorem is_96 : Cond.selects RX12 yX12_readExpr yX12_readExpr ∈ m_gW := m_in (List.mem_append_left _ (List.mem_of_getElem? (i := 96) rfl)) rfl
theorem is_97 : Cond.selects RX12 yX12_readVar yX12_readVar ∈ m_gW := m_in (List.mem_append_left _ (List.mem_of_getElem? (i := 97) rfl)) rfl
theorem is_98 : Cond.selects RX12 yX12_readVars yX12_readVars ∈ m_gW := m_in (List.mem_append_left _ (List.mem_of_getElem? (i := 98) rfl)) rfl
theorem is_99 : Cond.selects RX12 yX12_readCalled yX12_readCalled ∈ m_gW := m_in (List.mem_append_left _ (List.mem_of_getElem? (i := 99) rfl)) rfl
theorem is_100 : Cond.selects RX12 yX12_readWhen yX12_readWhen ∈ m_gW := m_in (List.mem_append_left _ (List.mem_of_getElem? (i := 100) rfl)) rfl
theorem is_101 : Cond.selects RX12 yX12_readEnd yX12_readEnd ∈ m_gW := m_in (List.mem_append_left _ (List.mem_of_getElem? (i := 101) rfl)) rfl
theorem is_102 : Cond.selects RX12 yX12_isSign yX12_isSign ∈ m_gW := m_in (List.mem_append_left _ (List.mem_of_getElem? (i := 102) rfl)) rfl
theorem is_103 : Cond.selects RX12 yX12_isFun yX12_isFun ∈ m_gW := m_in (List.mem_append_left _ (List.mem_of_getElem? (i := 103) rfl)) rfl
theorem is_104 : Cond.selects RX12 yX12_refuse yX12_refuse ∈ m_gW := m_in (List.mem_append_left _ (List.mem_of_getElem? (i := 104) rfl)) rfl
theorem is_105 : Cond.selects RX12 yX12_calledBy yX12_calledBy ∈ m_gW := m_in (List.mem_append_left _ (List.mem_of_getElem? (i := 105) rfl)) rfl
theorem is_106 : Cond.selects RX12 yX12_isLeft yX12_isLeft ∈ m_gW := m_in (List.mem_append_left _ (List.mem_of_getElem? (i := 106) rfl)) rfl
theorem is_107 : Cond.selects RX12 yX12_isRegion yX12_isRegion ∈ m_gW := m_in (List.mem_append_left _ (List.mem_of_getElem? (i := 107) rfl)) rfl
theorem is_108 : Cond.selects RX12 yX12_ownersOf yX12_ownersOf ∈ m_gW := m_in (List.mem_append_left _ (List.mem_of_getElem? (i := 108) rfl)) rfl
theorem is_109 : Cond.selects RX12 yX12_isFinite yX12_isFinite ∈ m_gW := m_in (List.mem_append_left _ (List.mem_of_getElem? (i := 109) rfl)) rfl
theorem is_110 : Cond.selects RX12 yX12_isOuter yX12_isOuter ∈ m_gW := m_in (List.mem_append_left _ (List.mem_of_getElem? (i := 110) rfl)) rfl
theorem is_111 : Cond.selects RX12 yX12_mainFun yX12_mainFun ∈ m_gW := m_in (List.mem_append_left _ (List.mem_of_getElem? (i := 111) rfl)) rfl
theorem is_112 : Cond.selects RX12 yX12_roomsOf yX12_roomsOf ∈ m_gW := m_in (List.mem_append_left _ (List.mem_of_getElem? (i := 112) rfl)) rfl
theorem is_113 : Cond.selects RX12 yX12_cellsOf yX12_cellsOf ∈ m_gW := m_in (List.mem_append_left _ (List.mem_of_getElem? (i := 113) rfl)) rfl
theorem is_114 : Cond.selects RX12 yX12_comeBack yX12_comeBack ∈ m_gW := m_in (List.mem_append_left _ (List.mem_of_getElem? (i := 114) rfl)) rfl
theorem is_115 : Cond.selects RX12 yX12_canLoad yX12_canLoad ∈ m_gW := m_in (List.mem_append_left _ (List.mem_of_getElem? (i := 115) rfl)) rfl
theorem is_116 : Cond.selects RX12 yX12_snap yX12_snap ∈ m_gW := m_in (List.mem_append_left _ (List.mem_of_getElem? (i := 116) rfl)) rfl
theorem is_117 : Cond.selects RX12 yX12_save yX12_save ∈ m_gW := m_in (List.mem_append_left _ (List.mem_of_getElem? (i := 117) rfl)) rfl
theorem is_118 : Cond.selects RX12 yX12_loads yX12_loads ∈ m_gW := m_in (List.mem_append_left _ (List.mem_of_getElem? (i := 118) rfl)) rfl
theorem is_119 : Cond.selects RX12 yX12_makeRoom yX12_makeRoom ∈ m_gW := m_in (List.mem_append_left _ (List.mem_of_getElem? (i := 119) rfl)) rfl
theorem is_120 : Cond.selects RX12 yX12_pushFrame yX12_pushFrame ∈ m_gW := m_in (List.mem_append_left _ (List.mem_of_getElem? (i := 120) rfl)) rfl
theorem is_121 : Cond.selects RX12 yX12_setVar yX12_setVar ∈ m_gW := m_in (List.mem_append_left _ (List.mem_of_getElem? (i := 121) rfl)) rfl
theorem is_122 : Cond.selects RX12 yX12_slot yX12_slot ∈ m_gW := m_in (List.mem_append_left _ (List.mem_of_getElem? (i := 122) rfl)) rfl
theorem is_123 : Cond.selects RX12 yX12_oneStep yX12_oneStep ∈ m_gW := m_in (List.mem_append_left _ (List.mem_of_getElem? (i := 123) rfl)) rfl
theorem is_124 : Cond.selects RX12 yX12_funOf yX12_funOf ∈ m_gW := m_in (List.mem_append_left _ (List.mem_of_getElem? (i := 124) rfl)) rfl
theorem is_125 : Cond.selects RX12 yX12_whyStop yX12_whyStop ∈ m_gW := m_in (List.mem_append_left _ (List.mem_of_getElem? (i := 125) rfl)) rfl
theorem is_126 : Cond.selects RX12 yX12_lineOf yX12_lineOf ∈ m_gW := m_in (List.mem_append_left _ (List.mem_of_getElem? (i := 126) rfl)) rfl
theorem is_127 : Cond.selects RX12 yX12_kindAt yX12_kindAt ∈ m_gW := m_in (List.mem_append_left _ (List.mem_of_getElem? (i := 127) rfl)) rfl
theorem is_128 : Cond.selects RX12 yX12_calls yX12_calls ∈ m_gW := m_in (List.mem_append_left _ (List.mem_of_getElem? (i := 128) rfl)) rfl
theorem is_129 : Cond.selects RX12 yX12_valueAt yX12_valueAt ∈ m_gW := m_in (List.mem_append_left _ (List.mem_of_getElem? (i := 129) rfl)) rfl
theorem is_130 : Cond.selects RX12 yX12_goesAhead yX12_goesAhead ∈ m_gW := m_in (List.mem_append_left _ (List.mem_of_getElem? (i := 130) rfl)) rfl
theorem is_131 : Cond.selects RX12 yX12_does yX12_does ∈ m_gW := m_in (List.mem_append_left _ (List.mem_of_getElem? (i := 131) rfl)) rfl
theorem is_132 : Cond.selects RX12 yX12_gives yX12_gives ∈ m_gW := m_in (List.mem_append_left _ (List.mem_of_getElem? (i := 132) rfl)) rfl
theorem is_133 : Cond.selects RX12 yX12_frees yX12_frees ∈ m_gW := m_in (List.mem_append_left _ (List.mem_of_getElem? (i := 133) rfl)) rfl
theorem is_134 : Cond.selects RX12 yX12_latestRoom yX12_latestRoom ∈ m_gW := m_in (List.mem_append_left _ (List.mem_of_getElem? (i := 134) rfl)) rfl
theorem is_135 : Cond.selects RX12 yX12_freeRoom yX12_freeRoom ∈ m_gW := m_in (List.mem_append_left _ (List.mem_of_getElem? (i := 135) rfl)) rfl
theorem is_136 : Cond.selects RX12 yX12_givesAt yX12_givesAt ∈ m_gW := m_in (List.mem_append_left _ (List.mem_of_getElem? (i := 136) rfl)) rfl
theorem is_137 : Cond.selects RX12 yX12_layCell yX12_layCell ∈ m_gW := m_in (List.mem_append_left _ (List.mem_of_getElem? (i := 137) rfl)) rfl
theorem is_138 : Cond.selects RX12 yX12_callsFun yX12_callsFun ∈ m_gW := m_in (List.mem_append_left _ (List.mem_of_getElem? (i := 138) rfl)) rfl
theorem is_139 : Cond.selects RX12 yX12_isVar yX12_isVar ∈ m_gW := m_in (List.mem_append_left _ (List.mem_of_getElem? (i := 139) rfl)) rfl
theorem is_140 : Cond.selects RX12 yX12_isCell yX12_isCell ∈ m_gW := m_in (List.mem_append_left _ (List.mem_of_getElem? (i := 140) rfl)) rfl
theorem is_141 : Cond.selects RX12 yX12_markReached yX12_markReached ∈ m_gW := m_in (List.mem_append_left _ (List.mem_of_getElem? (i := 141) rfl)) rfl
theorem is_142 : Cond.selects RX12 yX12_comesTo yX12_comesTo ∈ m_gW := m_in (List.mem_append_left _ (List.mem_of_getElem? (i := 142) rfl)) rfl
theorem is_143 : Cond.selects RX12 yX12_dragNow yX12_dragNow ∈ m_gW := m_in (List.mem_append_left _ (List.mem_of_getElem? (i := 143) rfl)) rfl
theorem is_144 : Cond.selects RX12 yX12_ends yX12_ends ∈ m_gW := m_in (List.mem_append_left _ (List.mem_of_getElem? (i := 144) rfl)) rfl
theorem is_145 : Cond.selects RX12 yX12_draw yX12_draw ∈ m_gW := m_in (List.mem_append_left _ (List.mem_of_getElem? (i := 145) rfl)) rfl
theorem is_146 : Cond.selects RX12 yX12_readOr yX12_readOr ∈ m_gW := m_in (List.mem_append_left _ (List.mem_of_getElem? (i := 146) rfl)) rfl
theorem is_147 : Cond.selects RX12 yX12_readAnd yX12_readAnd ∈ m_gW := m_in (List.mem_append_left _ (List.mem_of_getElem? (i := 147) rfl)) rfl
theorem is_148 : Cond.selects RX12 yX12_readSaid yX12_readSaid ∈ m_gW := m_in (List.mem_append_left _ (List.mem_of_getElem? (i := 148) rfl)) rfl
theorem is_149 : Cond.selects RX12 yX12_readBracket yX12_readBracket ∈ m_gW := m_in (List.mem_append_left _ (List.mem_of_getElem? (i := 149) rfl)) rfl
theorem is_150 : Cond.selects RX12 yX12_readNot yX12_readNot ∈ m_gW := m_in (List.mem_append_left _ (List.mem_of_getElem? (i := 150) rfl)) rfl
theorem is_151 : Cond.selects RX12 yX12_saysOne yX12_saysOne ∈ m_gW := m_in (List.mem_append_left _ (List.mem_of_getElem? (i := 151) rfl)) rfl
theorem is_152 : Cond.selects RX12 yX12_readOf yX12_readOf ∈ m_gW := m_in (List.mem_append_left _ (List.mem_of_getElem? (i := 152) rfl)) rfl
theorem is_153 : Cond.selects RX12 yX12_readFunName yX12_readFunName ∈ m_gW := m_in (List.mem_append_left _ (List.mem_of_getElem? (i := 153) rfl)) rfl
theorem is_154 : Cond.selects RX12 yX12_readCompare yX12_readCompare ∈ m_gW := m_in (List.mem_append_left _ (List.mem_of_getElem? (i := 154) rfl)) rfl
theorem is_155 : Cond.selects RX12 yX12_readNumber yX12_readNumber ∈ m_gW := m_in (List.mem_append_left _ (List.mem_of_getElem? (i := 155) rfl)) rfl
theorem is_156 : Cond.selects RX12 yX12_holds yX12_holds ∈ m_gW := m_in (List.mem_append_left _ (List.mem_of_getElem? (i := 156) rfl)) rfl
theorem is_157 : Cond.selects RX12 yX12_finiteMany yX12_finiteMany ∈ m_gW := m_in (List.mem_append_left _ (List.mem_of_getElem? (i := 157) rfl)) rfl
theorem m_wi0 : ∀ w ∈ u_ws RX0 TX0 3, w ∈ m_gW := by decide +kernel
theorem m_wi1 : ∀ w ∈ u_ws RX1 TX1 3, w ∈ m_gW := by decide +kernel
theorem m_wi2 : ∀ w ∈ u_ws RX2 TX2 20, w ∈ m_gW := by decide +kernel
theorem m_wi3 : ∀ w ∈ u_ws RX3 TX3 10, w ∈ m_gW := by decide +kernel
theorem m_wi4 : ∀ w ∈ u_ws RX4 TX4 4, w ∈ m_gW := by decide +kernel
theorem m_wi5 : ∀ w ∈ u_ws RX5 TX5 5, w ∈ m_gW := by decide +kernel
theorem m_wi6 : ∀ w ∈ u_ws RX6 TX6 15, w ∈ m_gW := by decide +kernel
theorem m_wi7 : ∀ w ∈ u_ws RX7 TX7 7, w ∈ m_gW := by decide +kernel
theorem m_wi8 : ∀ w ∈ u_ws RX8 TX8 2, w ∈ m_gW := by decide +kernel
theorem m_wi9 : ∀ w ∈ u_ws RX9 TX9 17, w ∈ m_gW := by decide +kernel
theorem m_wi10 : ∀ w ∈ u_ws RX10 TX10 3, w ∈ m_gW := by decide +kernel
theorem m_wi11 : ∀ w ∈ u_ws RX11 TX11 13, w ∈ m_gW := by decide +kernel
theorem m_wi12 : ∀ w ∈ u_ws RX12 TX12 51, w ∈ m_gW := by decide +kernel
theorem mw_X11_init : m_CW yX11_init cX11_init 1 none 0 := ⟨in_1_30, in_1_1, by decide +kernel⟩
theorem mw_X4_init : m_CW yX4_init cX4_init 1 none 0 := ⟨in_1_38, in_1_2, by decide +kernel⟩
theorem mw_X3_init : m_CW yX3_init cX3_init 1 none 0 := ⟨in_1_44, in_1_3, by decide +kernel⟩
theorem mw_X6_init : m_CW yX6_init cX6_init 1 none 0 := ⟨in_1_50, in_1_4, by decide +kernel⟩
theorem mw_X9_init : m_CW yX9_init cX9_init 6 none 1 := ⟨in_1_190, in_1_5, by decide +kernel⟩
theorem mw_J9_max_7cf53 : m_CS yJ9_max_7cf53 cJ9_max_7cf53 2 (some .int) 2 := ⟨⟨in_1_195, in_1_6, by decide +kernel⟩, in_1_194⟩
theorem mw_J0_length_8abf5 : m_CV yJ0_length_8abf5 cJ0_length_8abf5 1 (some .int) 0 := ⟨⟨in_1_200, in_1_7, by decide +kernel⟩, in_1_198, in_1_199⟩
theorem mw_J0_coder_7d493 : m_CV yJ0_coder_7d493 cJ0_coder_7d493 1 (some .byte) 0 := ⟨⟨in_1_204, in_1_7, by decide +kernel⟩, in_1_202, in_1_203⟩
theorem mw_J0_charAt_5068e : m_CV yJ0_charAt_5068e cJ0_charAt_5068e 2 (some .char) 1 := ⟨⟨in_1_210, in_1_7, by decide +kernel⟩, in_1_208, in_1_209⟩
theorem mw_J0_isLatin1_aae02 : m_CV yJ0_isLatin1_aae02 cJ0_isLatin1_aae02 1 (some .boolean) 0 := ⟨⟨in_1_214, in_1_7, by decide +kernel⟩, in_1_212, in_1_213⟩
theorem mw_J1_charAt_3b067 : m_CS yJ1_charAt_3b067 cJ1_charAt_3b067 2 (some .char) 2 := ⟨⟨in_1_217, in_1_8, by decide +kernel⟩, in_1_216⟩
theorem mw_J0_checkIndex_df160 : m_CS yJ0_checkIndex_df160 cJ0_checkIndex_df160 2 none 2 := ⟨⟨in_1_220, in_1_7, by decide +kernel⟩, in_1_219⟩
theorem mw_J3_checkIndex_8e157 : m_CS yJ3_checkIndex_8e157 cJ3_checkIndex_8e157 3 (some .int) 3 := ⟨⟨in_1_225, in_1_9, by decide +kernel⟩, in_1_224⟩
theorem mw_J2_charAt_3b067 : m_CS yJ2_charAt_3b067 cJ2_charAt_3b067 2 (some .char) 2 := ⟨⟨in_1_228, in_1_10, by decide +kernel⟩, in_1_227⟩
theorem mw_J2_checkIndex_2214a : m_CS yJ2_checkIndex_2214a cJ2_checkIndex_2214a 2 none 2 := ⟨⟨in_1_231, in_1_10, by decide +kernel⟩, in_1_230⟩
theorem mw_J2_length_9d52b : m_CS yJ2_length_9d52b cJ2_length_9d52b 1 (some .int) 1 := ⟨⟨in_1_234, in_1_10, by decide +kernel⟩, in_1_233⟩
theorem mw_J2_getChar_3b067 : m_CS yJ2_getChar_3b067 cJ2_getChar_3b067 2 (some .char) 2 := ⟨⟨in_1_238, in_1_10, by decide +kernel⟩, in_1_237⟩
theorem mw_X9_withLetter : m_CS yX9_withLetter cX9_withLetter 3 (some .long) 2 := ⟨⟨in_2_7, in_1_5, by decide +kernel⟩, in_2_6⟩
theorem mw_X8_init : m_CW yX8_init cX8_init 1 none 0 := ⟨in_2_91, in_1_11, by decide +kernel⟩
theorem mw_X7_init : m_CW yX7_init cX7_init 1 none 0 := ⟨in_2_97, in_1_12, by decide +kernel⟩
theorem mw_X5_init : m_CW yX5_init cX5_init 1 none 0 := ⟨in_2_141, in_1_13, by decide +kernel⟩
theorem mw_X10_init : m_CW yX10_init cX10_init 1 none 0 := ⟨in_2_163, in_1_14, by decide +kernel⟩
theorem mw_X2_init : m_CW yX2_init cX2_init 1 none 0 := ⟨in_2_171, in_1_15, by decide +kernel⟩
theorem mw_J7_fill_53178 : m_CS yJ7_fill_53178 cJ7_fill_53178 4 none 2 := ⟨⟨in_2_175, in_1_16, by decide +kernel⟩, in_2_174⟩
theorem mw_X1_init : m_CW yX1_init cX1_init 1 none 0 := ⟨in_3_41, in_1_17, by decide +kernel⟩
theorem mw_X0_init : m_CW yX0_init cX0_init 1 none 0 := ⟨in_3_58, in_1_18, by decide +kernel⟩
theorem mw_X11_feed : m_CV yX11_feed cX11_feed 6 (some .int) 5 := ⟨⟨in_3_116, in_1_1, by decide +kernel⟩, in_3_114, in_3_115⟩
theorem mw_X11_putBytes : m_CV yX11_putBytes cX11_putBytes 3 none 1 := ⟨⟨in_3_120, in_1_1, by decide +kernel⟩, in_3_119, is_0⟩
theorem mw_X11_end : m_CV yX11_end cX11_end 2 (some .boolean) 1 := ⟨⟨in_3_124, in_1_1, by decide +kernel⟩, in_3_122, in_3_123⟩
theorem mw_X11_program : m_CV yX11_program cX11_program 3 (some .int) 0 := ⟨⟨in_3_128, in_1_1, by decide +kernel⟩, in_3_126, in_3_127⟩
theorem mw_X11_takeTape : m_CV yX11_takeTape cX11_takeTape 2 (some .int) 0 := ⟨⟨in_3_132, in_1_1, by decide +kernel⟩, in_3_131, is_1⟩
theorem mw_X4_readsAll : m_CV yX4_readsAll cX4_readsAll 5 (some .boolean) 2 := ⟨⟨in_3_136, in_1_2, by decide +kernel⟩, in_3_134, in_3_135⟩
theorem mw_X3_clear : m_CV yX3_clear cX3_clear 1 none 0 := ⟨⟨in_3_140, in_1_3, by decide +kernel⟩, in_3_138, in_3_139⟩
theorem mw_X9_open : m_CV yX9_open cX9_open 5 none 2 := ⟨⟨in_3_144, in_1_5, by decide +kernel⟩, in_3_142, in_3_143⟩
theorem mw_J9_min_7cf53 : m_CS yJ9_min_7cf53 cJ9_min_7cf53 2 (some .int) 2 := ⟨⟨in_3_147, in_1_6, by decide +kernel⟩, in_3_146⟩
theorem mw_X9_readPiece : m_CV yX9_readPiece cX9_readPiece 4 none 1 := ⟨⟨in_3_151, in_1_5, by decide +kernel⟩, in_3_150, is_2⟩
theorem mw_X9_isLetter : m_CS yX9_isLetter cX9_isLetter 1 (some .boolean) 1 := ⟨⟨in_3_154, in_1_5, by decide +kernel⟩, in_3_153⟩
theorem mw_X9_isDigit : m_CS yX9_isDigit cX9_isDigit 1 (some .boolean) 1 := ⟨⟨in_3_157, in_1_5, by decide +kernel⟩, in_3_156⟩
theorem mw_X9_readLettersAndDigits : m_CV yX9_readLettersAndDigits cX9_readLettersAndDigits 8 none 1 := ⟨⟨in_3_161, in_1_5, by decide +kernel⟩, in_3_160, is_3⟩
theorem mw_X9_keywordOf : m_CV yX9_keywordOf cX9_keywordOf 4 (some .int) 1 := ⟨⟨in_3_165, in_1_5, by decide +kernel⟩, in_3_164, is_4⟩
theorem mw_X9_put : m_CV yX9_put cX9_put 5 none 3 := ⟨⟨in_3_169, in_1_5, by decide +kernel⟩, in_3_168, is_5⟩
theorem mw_X9_advance : m_CV yX9_advance cX9_advance 1 none 0 := ⟨⟨in_3_173, in_1_5, by decide +kernel⟩, in_3_171, in_3_172⟩
theorem mw_X4_readsFun : m_CV yX4_readsFun cX4_readsFun 1 (some .boolean) 0 := ⟨⟨in_3_177, in_1_2, by decide +kernel⟩, in_3_176, is_6⟩
theorem mw_X4_latestFunIsBare : m_CV yX4_latestFunIsBare cX4_latestFunIsBare 1 (some .boolean) 0 := ⟨⟨in_3_181, in_1_2, by decide +kernel⟩, in_3_180, is_7⟩
theorem mw_X9_failsBy : m_CV yX9_failsBy cX9_failsBy 2 (some .boolean) 1 := ⟨⟨in_3_185, in_1_5, by decide +kernel⟩, in_3_183, in_3_184⟩
theorem mw_X3_funOf : m_CV yX3_funOf cX3_funOf 4 (some .int) 1 := ⟨⟨in_3_190, in_1_3, by decide +kernel⟩, in_3_188, in_3_189⟩
theorem mw_X3_openFun : m_CV yX3_openFun cX3_openFun 3 none 1 := ⟨⟨in_3_194, in_1_3, by decide +kernel⟩, in_3_192, in_3_193⟩
theorem mw_X4_readsParameters : m_CV yX4_readsParameters cX4_readsParameters 2 (some .boolean) 0 := ⟨⟨in_3_198, in_1_2, by decide +kernel⟩, in_3_197, is_8⟩
theorem mw_X4_varOf : m_CV yX4_varOf cX4_varOf 4 (some .int) 1 := ⟨⟨in_3_202, in_1_2, by decide +kernel⟩, in_3_201, is_9⟩
theorem mw_X4_addVar : m_CV yX4_addVar cX4_addVar 3 none 1 := ⟨⟨in_3_206, in_1_2, by decide +kernel⟩, in_3_205, is_10⟩
theorem mw_X4_readsIs : m_CV yX4_readsIs cX4_readsIs 3 (some .boolean) 0 := ⟨⟨in_3_210, in_1_2, by decide +kernel⟩, in_3_209, is_11⟩
theorem mw_X9_takesKeyword : m_CV yX9_takesKeyword cX9_takesKeyword 2 (some .boolean) 1 := ⟨⟨in_3_214, in_1_5, by decide +kernel⟩, in_3_212, in_3_213⟩
theorem mw_X4_readsExpr : m_CV yX4_readsExpr cX4_readsExpr 2 (some .boolean) 1 := ⟨⟨in_3_219, in_1_2, by decide +kernel⟩, in_3_218, is_12⟩
theorem mw_X4_takesVars : m_CV yX4_takesVars cX4_takesVars 6 (some .boolean) 3 := ⟨⟨in_3_223, in_1_2, by decide +kernel⟩, in_3_222, is_13⟩
theorem mw_X4_takesFun : m_CV yX4_takesFun cX4_takesFun 3 (some .boolean) 1 := ⟨⟨in_3_227, in_1_2, by decide +kernel⟩, in_3_226, is_14⟩
theorem mw_X3_argumentCount : m_CV yX3_argumentCount cX3_argumentCount 2 (some .int) 1 := ⟨⟨in_3_231, in_1_3, by decide +kernel⟩, in_3_229, in_3_230⟩
theorem mw_X4_readsWhen : m_CV yX4_readsWhen cX4_readsWhen 4 (some .boolean) 1 := ⟨⟨in_3_235, in_1_2, by decide +kernel⟩, in_3_234, is_15⟩
theorem mw_X3_closeLine : m_CV yX3_closeLine cX3_closeLine 1 none 0 := ⟨⟨in_3_239, in_1_3, by decide +kernel⟩, in_3_237, in_3_238⟩
theorem mw_X9_takesSign : m_CV yX9_takesSign cX9_takesSign 2 (some .boolean) 1 := ⟨⟨in_4_3, in_1_5, by decide +kernel⟩, in_4_1, in_4_2⟩
theorem mw_X5_findAll : m_CV yX5_findAll cX5_findAll 4 none 1 := ⟨⟨in_4_7, in_1_13, by decide +kernel⟩, in_4_5, in_4_6⟩
theorem mw_X5_clear : m_CV yX5_clear cX5_clear 2 none 0 := ⟨⟨in_4_11, in_1_13, by decide +kernel⟩, in_4_10, is_16⟩
theorem mw_X5_joinLine : m_CV yX5_joinLine cX5_joinLine 5 none 3 := ⟨⟨in_4_16, in_1_13, by decide +kernel⟩, in_4_15, is_17⟩
theorem mw_X3_varOfLine : m_CV yX3_varOfLine cX3_varOfLine 3 (some .int) 2 := ⟨⟨in_4_20, in_1_3, by decide +kernel⟩, in_4_18, in_4_19⟩
theorem mw_X5_nodeOf : m_CS yX5_nodeOf cX5_nodeOf 2 (some .int) 2 := ⟨⟨in_4_23, in_1_13, by decide +kernel⟩, in_4_22⟩
theorem mw_X5_operandNode : m_CS yX5_operandNode cX5_operandNode 4 (some .int) 4 := ⟨⟨in_4_26, in_1_13, by decide +kernel⟩, in_4_25⟩
theorem mw_X3_operandAt : m_CV yX3_operandAt cX3_operandAt 3 (some .int) 2 := ⟨⟨in_4_30, in_1_3, by decide +kernel⟩, in_4_28, in_4_29⟩
theorem mw_X5_join : m_CV yX5_join cX5_join 9 none 3 := ⟨⟨in_4_34, in_1_13, by decide +kernel⟩, in_4_33, is_18⟩
theorem mw_X5_rootOf : m_CV yX5_rootOf cX5_rootOf 4 (some .int) 1 := ⟨⟨in_4_38, in_1_13, by decide +kernel⟩, in_4_37, is_19⟩
theorem mw_X5_leftOf : m_CV yX5_leftOf cX5_leftOf 2 (some .int) 1 := ⟨⟨in_4_42, in_1_13, by decide +kernel⟩, in_4_41, is_20⟩
theorem mw_X5_rootWithRegion : m_CV yX5_rootWithRegion cX5_rootWithRegion 3 (some .int) 1 := ⟨⟨in_4_46, in_1_13, by decide +kernel⟩, in_4_45, is_21⟩
theorem mw_X5_rightOf : m_CV yX5_rightOf cX5_rightOf 2 (some .int) 1 := ⟨⟨in_4_50, in_1_13, by decide +kernel⟩, in_4_49, is_22⟩
theorem mw_X5_joinCall : m_CV yX5_joinCall cX5_joinCall 7 none 4 := ⟨⟨in_4_54, in_1_13, by decide +kernel⟩, in_4_53, is_23⟩
theorem mw_X3_resultOf : m_CV yX3_resultOf cX3_resultOf 2 (some .int) 1 := ⟨⟨in_4_58, in_1_3, by decide +kernel⟩, in_4_56, in_4_57⟩
theorem mw_X3_varCount : m_CV yX3_varCount cX3_varCount 2 (some .int) 1 := ⟨⟨in_4_62, in_1_3, by decide +kernel⟩, in_4_60, in_4_61⟩
theorem mw_X3_elseSlot : m_CV yX3_elseSlot cX3_elseSlot 2 (some .int) 1 := ⟨⟨in_4_66, in_1_3, by decide +kernel⟩, in_4_64, in_4_65⟩
theorem mw_X5_numberAll : m_CV yX5_numberAll cX5_numberAll 4 none 1 := ⟨⟨in_4_71, in_1_13, by decide +kernel⟩, in_4_70, is_24⟩
theorem mw_X5_numberFrom : m_CV yX5_numberFrom cX5_numberFrom 5 none 3 := ⟨⟨in_4_76, in_1_13, by decide +kernel⟩, in_4_75, is_25⟩
theorem mw_X5_tellAll : m_CV yX5_tellAll cX5_tellAll 4 none 1 := ⟨⟨in_4_80, in_1_13, by decide +kernel⟩, in_4_79, is_26⟩
theorem mw_X6_derive : m_CV yX6_derive cX6_derive 4 none 1 := ⟨⟨in_4_84, in_1_4, by decide +kernel⟩, in_4_82, in_4_83⟩
theorem mw_X6_closeReach : m_CV yX6_closeReach cX6_closeReach 3 none 0 := ⟨⟨in_4_88, in_1_4, by decide +kernel⟩, in_4_87, is_27⟩
theorem mw_X6_reachOf : m_CV yX6_reachOf cX6_reachOf 2 (some .int) 1 := ⟨⟨in_4_92, in_1_4, by decide +kernel⟩, in_4_90, in_4_91⟩
theorem mw_X6_has : m_CV yX6_has cX6_has 2 (some .boolean) 1 := ⟨⟨in_4_96, in_1_4, by decide +kernel⟩, in_4_94, in_4_95⟩
theorem mw_X6_tellOwner : m_CV yX6_tellOwner cX6_tellOwner 7 none 2 := ⟨⟨in_4_101, in_1_4, by decide +kernel⟩, in_4_100, is_28⟩
theorem mw_X6_pointedBy : m_CV yX6_pointedBy cX6_pointedBy 3 (some .int) 2 := ⟨⟨in_4_106, in_1_4, by decide +kernel⟩, in_4_104, in_4_105⟩
theorem mw_X6_tellFilled : m_CV yX6_tellFilled cX6_tellFilled 5 none 2 := ⟨⟨in_4_111, in_1_4, by decide +kernel⟩, in_4_110, is_29⟩
theorem mw_X6_isOwned : m_CV yX6_isOwned cX6_isOwned 3 (some .boolean) 2 := ⟨⟨in_4_116, in_1_4, by decide +kernel⟩, in_4_114, in_4_115⟩
theorem mw_X6_tellSpan : m_CV yX6_tellSpan cX6_tellSpan 7 none 3 := ⟨⟨in_4_120, in_1_4, by decide +kernel⟩, in_4_119, is_30⟩
theorem mw_X6_reachOfLine : m_CV yX6_reachOfLine cX6_reachOfLine 6 (some .int) 3 := ⟨⟨in_4_124, in_1_4, by decide +kernel⟩, in_4_123, is_31⟩
theorem mw_X6_reachOfVar : m_CV yX6_reachOfVar cX6_reachOfVar 3 (some .int) 2 := ⟨⟨in_4_128, in_1_4, by decide +kernel⟩, in_4_126, in_4_127⟩
theorem mw_X3_operandCount : m_CV yX3_operandCount cX3_operandCount 2 (some .int) 1 := ⟨⟨in_4_132, in_1_3, by decide +kernel⟩, in_4_130, in_4_131⟩
theorem mw_X6_tellFinite : m_CV yX6_tellFinite cX6_tellFinite 5 none 1 := ⟨⟨in_4_137, in_1_4, by decide +kernel⟩, in_4_136, is_32⟩
theorem mw_J6_bitCount_0f7a4 : m_CS yJ6_bitCount_0f7a4 cJ6_bitCount_0f7a4 1 (some .int) 1 := ⟨⟨in_4_140, in_1_20, by decide +kernel⟩, in_4_139⟩
theorem mw_X3_copyFrom : m_CV yX3_copyFrom cX3_copyFrom 2 none 1 := ⟨⟨in_4_147, in_1_3, by decide +kernel⟩, in_4_145, in_4_146⟩
theorem mw_X6_copyFrom : m_CV yX6_copyFrom cX6_copyFrom 2 none 1 := ⟨⟨in_4_154, in_1_4, by decide +kernel⟩, in_4_152, in_4_153⟩
theorem mw_X2_clear : m_CV yX2_clear cX2_clear 1 none 0 := ⟨⟨in_4_159, in_1_15, by decide +kernel⟩, in_4_157, in_4_158⟩
theorem mw_X7_clear : m_CV yX7_clear cX7_clear 1 none 0 := ⟨⟨in_4_163, in_1_12, by decide +kernel⟩, in_4_161, in_4_162⟩
theorem mw_X0_clear : m_CV yX0_clear cX0_clear 1 none 0 := ⟨⟨in_4_167, in_1_18, by decide +kernel⟩, in_4_165, in_4_166⟩
theorem mw_X11_fault : m_CV yX11_fault cX11_fault 1 (some .int) 0 := ⟨⟨in_4_171, in_1_1, by decide +kernel⟩, in_4_169, in_4_170⟩
theorem mw_X11_points : m_CV yX11_points cX11_points 3 (some .int) 2 := ⟨⟨in_4_175, in_1_1, by decide +kernel⟩, in_4_173, in_4_174⟩
theorem mw_X3_hasVar : m_CV yX3_hasVar cX3_hasVar 3 (some .boolean) 2 := ⟨⟨in_4_179, in_1_3, by decide +kernel⟩, in_4_177, in_4_178⟩
theorem mw_X3_hasFun : m_CV yX3_hasFun cX3_hasFun 2 (some .boolean) 1 := ⟨⟨in_4_183, in_1_3, by decide +kernel⟩, in_4_181, in_4_182⟩
theorem mw_X11_region : m_CV yX11_region cX11_region 4 (some .int) 2 := ⟨⟨in_4_188, in_1_1, by decide +kernel⟩, in_4_186, in_4_187⟩
theorem mw_X6_isFinite : m_CV yX6_isFinite cX6_isFinite 2 (some .boolean) 1 := ⟨⟨in_4_193, in_1_4, by decide +kernel⟩, in_4_191, in_4_192⟩
theorem mw_X2_roomsOf : m_CV yX2_roomsOf cX2_roomsOf 4 (some .int) 1 := ⟨⟨in_4_197, in_1_15, by decide +kernel⟩, in_4_195, in_4_196⟩
theorem mw_X2_cellsOf : m_CV yX2_cellsOf cX2_cellsOf 4 (some .int) 1 := ⟨⟨in_4_201, in_1_15, by decide +kernel⟩, in_4_199, in_4_200⟩
theorem mw_X2_hasCell : m_CV yX2_hasCell cX2_hasCell 2 (some .boolean) 1 := ⟨⟨in_4_205, in_1_15, by decide +kernel⟩, in_4_203, in_4_204⟩
theorem mw_X2_regionOfCell : m_CV yX2_regionOfCell cX2_regionOfCell 2 (some .int) 1 := ⟨⟨in_4_209, in_1_15, by decide +kernel⟩, in_4_207, in_4_208⟩
theorem mw_X2_hasRoom : m_CV yX2_hasRoom cX2_hasRoom 2 (some .boolean) 1 := ⟨⟨in_4_213, in_1_15, by decide +kernel⟩, in_4_211, in_4_212⟩
theorem mw_X11_span : m_CV yX11_span cX11_span 5 (some .int) 3 := ⟨⟨in_4_217, in_1_1, by decide +kernel⟩, in_4_215, in_4_216⟩
theorem mw_X11_load : m_CV yX11_load cX11_load 1 (some .boolean) 0 := ⟨⟨in_4_223, in_1_1, by decide +kernel⟩, in_4_221, in_4_222⟩
theorem mw_X11_fitsMain : m_CV yX11_fitsMain cX11_fitsMain 3 (some .boolean) 1 := ⟨⟨in_4_227, in_1_1, by decide +kernel⟩, in_4_226, is_33⟩
theorem mw_X0_keep : m_CV yX0_keep cX0_keep 3 none 1 := ⟨⟨in_4_231, in_1_18, by decide +kernel⟩, in_4_229, in_4_230⟩
theorem mw_X2_copyFrom : m_CV yX2_copyFrom cX2_copyFrom 2 none 1 := ⟨⟨in_4_236, in_1_15, by decide +kernel⟩, in_4_234, in_4_235⟩
theorem mw_X11_beginWithTape : m_CV yX11_beginWithTape cX11_beginWithTape 4 none 1 := ⟨⟨in_5_1, in_1_1, by decide +kernel⟩, in_5_0, is_34⟩
theorem mw_X2_begin : m_CV yX2_begin cX2_begin 2 none 1 := ⟨⟨in_5_5, in_1_15, by decide +kernel⟩, in_5_3, in_5_4⟩
theorem mw_X2_makeRooms : m_CV yX2_makeRooms cX2_makeRooms 3 none 1 := ⟨⟨in_5_10, in_1_15, by decide +kernel⟩, in_5_9, is_35⟩
theorem mw_X2_openFrame : m_CV yX2_openFrame cX2_openFrame 4 none 2 := ⟨⟨in_5_14, in_1_15, by decide +kernel⟩, in_5_13, is_36⟩
theorem mw_X2_setVar : m_CV yX2_setVar cX2_setVar 5 none 4 := ⟨⟨in_5_18, in_1_15, by decide +kernel⟩, in_5_16, in_5_17⟩
theorem mw_X3_parametersOfMain : m_CV yX3_parametersOfMain cX3_parametersOfMain 1 (some .int) 0 := ⟨⟨in_5_22, in_1_3, by decide +kernel⟩, in_5_20, in_5_21⟩
theorem mw_X11_steps : m_CV yX11_steps cX11_steps 4 (some .int) 1 := ⟨⟨in_5_27, in_1_1, by decide +kernel⟩, in_5_25, in_5_26⟩
theorem mw_X2_makeStep : m_CV yX2_makeStep cX2_makeStep 5 none 1 := ⟨⟨in_5_31, in_1_15, by decide +kernel⟩, in_5_29, in_5_30⟩
theorem mw_X2_stopReason : m_CV yX2_stopReason cX2_stopReason 5 (some .int) 3 := ⟨⟨in_5_35, in_1_15, by decide +kernel⟩, in_5_34, is_37⟩
theorem mw_X2_kindAt : m_CV yX2_kindAt cX2_kindAt 4 (some .int) 3 := ⟨⟨in_5_39, in_1_15, by decide +kernel⟩, in_5_38, is_38⟩
theorem mw_X2_hasPairForNumber : m_CV yX2_hasPairForNumber cX2_hasPairForNumber 3 (some .boolean) 2 := ⟨⟨in_5_44, in_1_15, by decide +kernel⟩, in_5_43, is_39⟩
theorem mw_X3_conditionSlot : m_CV yX3_conditionSlot cX3_conditionSlot 2 (some .int) 1 := ⟨⟨in_5_48, in_1_3, by decide +kernel⟩, in_5_46, in_5_47⟩
theorem mw_X2_callsNow : m_CV yX2_callsNow cX2_callsNow 3 (some .boolean) 2 := ⟨⟨in_5_52, in_1_15, by decide +kernel⟩, in_5_51, is_40⟩
theorem mw_X2_valueAt : m_CV yX2_valueAt cX2_valueAt 4 (some .int) 3 := ⟨⟨in_5_56, in_1_15, by decide +kernel⟩, in_5_55, is_41⟩
theorem mw_X3_leavesBy : m_CV yX3_leavesBy cX3_leavesBy 3 (some .boolean) 2 := ⟨⟨in_5_60, in_1_3, by decide +kernel⟩, in_5_58, in_5_59⟩
theorem mw_X2_callBy : m_CV yX2_callBy cX2_callBy 5 none 3 := ⟨⟨in_5_64, in_1_15, by decide +kernel⟩, in_5_63, is_42⟩
theorem mw_X2_moveFrame : m_CV yX2_moveFrame cX2_moveFrame 3 none 2 := ⟨⟨in_5_69, in_1_15, by decide +kernel⟩, in_5_68, is_43⟩
theorem mw_X2_work : m_CV yX2_work cX2_work 4 none 3 := ⟨⟨in_5_73, in_1_15, by decide +kernel⟩, in_5_72, is_44⟩
theorem mw_X2_give : m_CV yX2_give cX2_give 3 none 2 := ⟨⟨in_5_77, in_1_15, by decide +kernel⟩, in_5_76, is_45⟩
theorem mw_X2_layCell : m_CV yX2_layCell cX2_layCell 7 (some .int) 3 := ⟨⟨in_5_81, in_1_15, by decide +kernel⟩, in_5_80, is_46⟩
theorem mw_X2_freeCell : m_CV yX2_freeCell cX2_freeCell 2 (some .int) 0 := ⟨⟨in_5_85, in_1_15, by decide +kernel⟩, in_5_84, is_47⟩
theorem mw_X2_latestRoom : m_CV yX2_latestRoom cX2_latestRoom 3 (some .int) 1 := ⟨⟨in_5_91, in_1_15, by decide +kernel⟩, in_5_90, is_48⟩
theorem mw_X2_giveSide : m_CV yX2_giveSide cX2_giveSide 4 none 2 := ⟨⟨in_5_96, in_1_15, by decide +kernel⟩, in_5_95, is_49⟩
theorem mw_X2_giveVar : m_CV yX2_giveVar cX2_giveVar 4 none 3 := ⟨⟨in_5_100, in_1_15, by decide +kernel⟩, in_5_99, is_50⟩
theorem mw_X2_settle : m_CV yX2_settle cX2_settle 5 none 1 := ⟨⟨in_5_105, in_1_15, by decide +kernel⟩, in_5_104, is_51⟩
theorem mw_X2_freeRooms : m_CV yX2_freeRooms cX2_freeRooms 6 none 3 := ⟨⟨in_5_109, in_1_15, by decide +kernel⟩, in_5_108, is_52⟩
theorem mw_X2_freeRoom : m_CV yX2_freeRoom cX2_freeRoom 3 none 1 := ⟨⟨in_5_113, in_1_15, by decide +kernel⟩, in_5_112, is_53⟩
theorem mw_X11_now : m_CV yX11_now cX11_now 3 (some .int) 1 := ⟨⟨in_5_119, in_1_1, by decide +kernel⟩, in_5_117, in_5_118⟩
theorem mw_X2_latestFun : m_CV yX2_latestFun cX2_latestFun 1 (some .int) 0 := ⟨⟨in_5_123, in_1_15, by decide +kernel⟩, in_5_121, in_5_122⟩
theorem mw_X2_latestLine : m_CV yX2_latestLine cX2_latestLine 1 (some .int) 0 := ⟨⟨in_5_127, in_1_15, by decide +kernel⟩, in_5_125, in_5_126⟩
theorem mw_X11_kind : m_CV yX11_kind cX11_kind 3 (some .int) 2 := ⟨⟨in_5_131, in_1_1, by decide +kernel⟩, in_5_129, in_5_130⟩
theorem mw_X2_hasVar : m_CV yX2_hasVar cX2_hasVar 4 (some .boolean) 3 := ⟨⟨in_5_135, in_1_15, by decide +kernel⟩, in_5_133, in_5_134⟩
theorem mw_X11_cell : m_CV yX11_cell cX11_cell 3 (some .int) 2 := ⟨⟨in_5_140, in_1_1, by decide +kernel⟩, in_5_138, in_5_139⟩
theorem mw_X11_gave : m_CV yX11_gave cX11_gave 1 (some .int) 0 := ⟨⟨in_5_146, in_1_1, by decide +kernel⟩, in_5_144, in_5_145⟩
theorem mw_X2_resultKind : m_CV yX2_resultKind cX2_resultKind 1 (some .int) 0 := ⟨⟨in_5_150, in_1_15, by decide +kernel⟩, in_5_148, in_5_149⟩
theorem mw_X11_room : m_CV yX11_room cX11_room 2 (some .int) 1 := ⟨⟨in_5_154, in_1_1, by decide +kernel⟩, in_5_152, in_5_153⟩
theorem mw_X11_roomful : m_CV yX11_roomful cX11_roomful 2 (some .int) 1 := ⟨⟨in_5_159, in_1_1, by decide +kernel⟩, in_5_157, in_5_158⟩
theorem mw_X2_cellsIn : m_CV yX2_cellsIn cX2_cellsIn 4 (some .int) 1 := ⟨⟨in_5_163, in_1_15, by decide +kernel⟩, in_5_161, in_5_162⟩
theorem mw_X11_reached : m_CV yX11_reached cX11_reached 1 (some .int) 0 := ⟨⟨in_5_167, in_1_1, by decide +kernel⟩, in_5_165, in_5_166⟩
theorem mw_X1_countReached : m_CV yX1_countReached cX1_countReached 6 (some .int) 2 := ⟨⟨in_5_171, in_1_17, by decide +kernel⟩, in_5_169, in_5_170⟩
theorem mw_X1_come : m_CV yX1_come cX1_come 4 none 3 := ⟨⟨in_5_176, in_1_17, by decide +kernel⟩, in_5_175, is_54⟩
theorem mw_X11_isReached : m_CV yX11_isReached cX11_isReached 2 (some .int) 1 := ⟨⟨in_5_182, in_1_1, by decide +kernel⟩, in_5_180, in_5_181⟩
theorem mw_X11_drag : m_CV yX11_drag cX11_drag 1 (some .int) 0 := ⟨⟨in_5_186, in_1_1, by decide +kernel⟩, in_5_184, in_5_185⟩
theorem mw_X11_run : m_CV yX11_run cX11_run 3 (some .int) 0 := ⟨⟨in_5_190, in_1_1, by decide +kernel⟩, in_5_188, in_5_189⟩
theorem mw_X11_tellRan : m_CV yX11_tellRan cX11_tellRan 2 none 1 := ⟨⟨in_5_195, in_1_1, by decide +kernel⟩, in_5_194, is_55⟩
theorem mw_X11_ran : m_CV yX11_ran cX11_ran 2 (some .int) 1 := ⟨⟨in_5_199, in_1_1, by decide +kernel⟩, in_5_197, in_5_198⟩
theorem mw_X11_odds : m_CV yX11_odds cX11_odds 5 (some .int) 2 := ⟨⟨in_5_203, in_1_1, by decide +kernel⟩, in_5_201, in_5_202⟩
theorem mw_X11_endsByDraws : m_CV yX11_endsByDraws cX11_endsByDraws 5 (some .boolean) 1 := ⟨⟨in_5_207, in_1_1, by decide +kernel⟩, in_5_206, is_56⟩
theorem mw_X11_undo : m_CV yX11_undo cX11_undo 1 (some .int) 0 := ⟨⟨in_5_212, in_1_1, by decide +kernel⟩, in_5_210, in_5_211⟩
theorem mw_X0_takeBack : m_CV yX0_takeBack cX0_takeBack 3 (some .int) 1 := ⟨⟨in_5_216, in_1_18, by decide +kernel⟩, in_5_214, in_5_215⟩
theorem mw_X11_sentence : m_CV yX11_sentence cX11_sentence 2 (some .int) 0 := ⟨⟨in_5_220, in_1_1, by decide +kernel⟩, in_5_218, in_5_219⟩
theorem mw_X8_readsAll : m_CV yX8_readsAll cX8_readsAll 4 (some .boolean) 3 := ⟨⟨in_5_224, in_1_11, by decide +kernel⟩, in_5_222, in_5_223⟩
theorem mw_X8_readsCond : m_CV yX8_readsCond cX8_readsCond 4 (some .boolean) 2 := ⟨⟨in_5_230, in_1_11, by decide +kernel⟩, in_5_229, is_57⟩
theorem mw_X8_readsParts : m_CV yX8_readsParts cX8_readsParts 4 (some .boolean) 2 := ⟨⟨in_5_234, in_1_11, by decide +kernel⟩, in_5_233, is_58⟩
theorem mw_X8_readsOne : m_CV yX8_readsOne cX8_readsOne 5 (some .boolean) 2 := ⟨⟨in_5_238, in_1_11, by decide +kernel⟩, in_5_237, is_59⟩
theorem mw_X7_put : m_CV yX7_put cX7_put 4 (some .boolean) 3 := ⟨⟨in_6_5, in_1_12, by decide +kernel⟩, in_6_3, in_6_4⟩
theorem mw_X8_readsFunOf : m_CV yX8_readsFunOf cX8_readsFunOf 4 (some .boolean) 2 := ⟨⟨in_6_9, in_1_11, by decide +kernel⟩, in_6_8, is_60⟩
theorem mw_X8_readsMeasure : m_CV yX8_readsMeasure cX8_readsMeasure 4 (some .boolean) 1 := ⟨⟨in_6_14, in_1_11, by decide +kernel⟩, in_6_13, is_61⟩
theorem mw_X7_copyFrom : m_CV yX7_copyFrom cX7_copyFrom 2 none 1 := ⟨⟨in_6_18, in_1_12, by decide +kernel⟩, in_6_16, in_6_17⟩
theorem mw_X11_said : m_CV yX11_said cX11_said 4 (some .int) 1 := ⟨⟨in_6_23, in_1_1, by decide +kernel⟩, in_6_21, in_6_22⟩
theorem mw_X7_holds : m_CV yX7_holds cX7_holds 9 (some .boolean) 3 := ⟨⟨in_6_27, in_1_12, by decide +kernel⟩, in_6_25, in_6_26⟩
theorem mw_X7_isTrue : m_CV yX7_isTrue cX7_isTrue 5 (some .boolean) 4 := ⟨⟨in_6_31, in_1_12, by decide +kernel⟩, in_6_30, is_62⟩
theorem mw_X7_fits : m_CV yX7_fits cX7_fits 3 (some .boolean) 2 := ⟨⟨in_6_38, in_1_12, by decide +kernel⟩, in_6_37, is_63⟩
theorem mw_X11_image : m_CV yX11_image cX11_image 2 (some .boolean) 1 := ⟨⟨in_6_42, in_1_1, by decide +kernel⟩, in_6_40, in_6_41⟩
theorem mw_X10_copyFrom : m_CV yX10_copyFrom cX10_copyFrom 2 none 1 := ⟨⟨in_6_46, in_1_14, by decide +kernel⟩, in_6_44, in_6_45⟩
theorem mw_X11_restore : m_CV yX11_restore cX11_restore 2 (some .boolean) 1 := ⟨⟨in_6_53, in_1_1, by decide +kernel⟩, in_6_51, in_6_52⟩
theorem mw_X11_count : m_CV yX11_count cX11_count 2 (some .int) 1 := ⟨⟨in_6_57, in_1_1, by decide +kernel⟩, in_6_55, in_6_56⟩
theorem mw_X11_fun : m_CV yX11_fun cX11_fun 4 (some .int) 2 := ⟨⟨in_6_66, in_1_1, by decide +kernel⟩, in_6_64, in_6_65⟩
theorem mw_X3_calledBy : m_CV yX3_calledBy cX3_calledBy 4 (some .int) 1 := ⟨⟨in_6_131, in_1_3, by decide +kernel⟩, in_6_129, in_6_130⟩
theorem mw_X3_isCall : m_CV yX3_isCall cX3_isCall 2 (some .boolean) 1 := ⟨⟨in_6_135, in_1_3, by decide +kernel⟩, in_6_133, in_6_134⟩
theorem mw_X3_endsWithLeavingCall : m_CV yX3_endsWithLeavingCall cX3_endsWithLeavingCall 3 (some .boolean) 1 := ⟨⟨in_6_139, in_1_3, by decide +kernel⟩, in_6_137, in_6_138⟩
theorem mw_X11_value : m_CV yX11_value cX11_value 3 (some .int) 2 := ⟨⟨in_6_147, in_1_1, by decide +kernel⟩, in_6_145, in_6_146⟩
theorem mw_X11_in : m_CV yX11_in cX11_in 3 (some .int) 2 := ⟨⟨in_6_154, in_1_1, by decide +kernel⟩, in_6_152, in_6_153⟩
theorem mw_X11_result : m_CV yX11_result cX11_result 1 (some .int) 0 := ⟨⟨in_6_161, in_1_1, by decide +kernel⟩, in_6_159, in_6_160⟩
theorem mw_X12_thrown : m_CV yX12_thrown cX12_thrown 1 (some .int) 0 := ⟨⟨in_6_165, in_1_19, by decide +kernel⟩, in_6_163, in_6_164⟩
theorem mw_X12_feed : m_CV yX12_feed cX12_feed 6 (some .int) 5 := ⟨⟨in_6_169, in_1_19, by decide +kernel⟩, in_6_167, in_6_168⟩
theorem mw_X12_come : m_CV yX12_come cX12_come 3 none 1 := ⟨⟨in_6_174, in_1_19, by decide +kernel⟩, in_6_172, is_65⟩
theorem mw_X12_end : m_CV yX12_end cX12_end 2 (some .boolean) 1 := ⟨⟨in_6_178, in_1_19, by decide +kernel⟩, in_6_176, in_6_177⟩
theorem mw_X12_init : m_CW yX12_init cX12_init 1 none 0 := ⟨in_6_182, in_1_19, by decide +kernel⟩
theorem mw_X12_startSo : m_CV yX12_startSo cX12_startSo 2 none 0 := ⟨⟨in_6_187, in_1_19, by decide +kernel⟩, in_6_186, is_66⟩
theorem mw_X12_layRegions : m_CV yX12_layRegions cX12_layRegions 3 none 0 := ⟨⟨in_6_191, in_1_19, by decide +kernel⟩, in_6_190, is_67⟩
theorem mw_X12_joinLine : m_CV yX12_joinLine cX12_joinLine 8 none 2 := ⟨⟨in_6_195, in_1_19, by decide +kernel⟩, in_6_194, is_68⟩
theorem mw_X12_madeBy : m_CV yX12_madeBy cX12_madeBy 3 (some .int) 2 := ⟨⟨in_6_199, in_1_19, by decide +kernel⟩, in_6_198, is_69⟩
theorem mw_X12_node : m_CV yX12_node cX12_node 3 (some .int) 2 := ⟨⟨in_6_203, in_1_19, by decide +kernel⟩, in_6_202, is_70⟩
theorem mw_X12_var : m_CV yX12_var cX12_var 3 (some .int) 2 := ⟨⟨in_6_207, in_1_19, by decide +kernel⟩, in_6_206, is_71⟩
theorem mw_X12_join : m_CV yX12_join cX12_join 7 none 2 := ⟨⟨in_6_211, in_1_19, by decide +kernel⟩, in_6_210, is_72⟩
theorem mw_X12_topOf : m_CV yX12_topOf cX12_topOf 3 (some .int) 1 := ⟨⟨in_6_215, in_1_19, by decide +kernel⟩, in_6_214, is_73⟩
theorem mw_X12_sideNode : m_CV yX12_sideNode cX12_sideNode 3 (some .int) 2 := ⟨⟨in_6_219, in_1_19, by decide +kernel⟩, in_6_218, is_74⟩
theorem mw_X12_pointFrom : m_CV yX12_pointFrom cX12_pointFrom 3 (some .int) 1 := ⟨⟨in_6_223, in_1_19, by decide +kernel⟩, in_6_222, is_75⟩
theorem mw_X12_varsOf : m_CV yX12_varsOf cX12_varsOf 3 (some .int) 2 := ⟨⟨in_6_227, in_1_19, by decide +kernel⟩, in_6_226, is_76⟩
theorem mw_X12_numberFrom : m_CV yX12_numberFrom cX12_numberFrom 3 none 1 := ⟨⟨in_6_231, in_1_19, by decide +kernel⟩, in_6_230, is_77⟩
theorem mw_X12_numbered : m_CV yX12_numbered cX12_numbered 3 (some .int) 1 := ⟨⟨in_6_235, in_1_19, by decide +kernel⟩, in_6_234, is_78⟩
theorem mw_X12_reachFrom : m_CV yX12_reachFrom cX12_reachFrom 6 (some .int) 1 := ⟨⟨in_6_239, in_1_19, by decide +kernel⟩, in_6_238, is_79⟩
theorem mw_X12_has : m_CS yX12_has cX12_has 2 (some .boolean) 2 := ⟨⟨in_7_2, in_1_19, by decide +kernel⟩, in_7_1⟩
theorem mw_X12_layFun : m_CV yX12_layFun cX12_layFun 6 none 1 := ⟨⟨in_7_6, in_1_19, by decide +kernel⟩, in_7_5, is_80⟩
theorem mw_X12_laySpans : m_CV yX12_laySpans cX12_laySpans 5 none 1 := ⟨⟨in_7_10, in_1_19, by decide +kernel⟩, in_7_9, is_81⟩
theorem mw_X12_reachIn : m_CV yX12_reachIn cX12_reachIn 5 (some .int) 2 := ⟨⟨in_7_14, in_1_19, by decide +kernel⟩, in_7_13, is_82⟩
theorem mw_X12_program : m_CV yX12_program cX12_program 3 (some .int) 0 := ⟨⟨in_7_172, in_1_19, by decide +kernel⟩, in_7_170, in_7_171⟩
theorem mw_X12_begin : m_CV yX12_begin cX12_begin 2 none 1 := ⟨⟨in_7_176, in_1_19, by decide +kernel⟩, in_7_175, is_83⟩
theorem mw_X12_take : m_CV yX12_take cX12_take 2 (some .int) 0 := ⟨⟨in_7_180, in_1_19, by decide +kernel⟩, in_7_179, is_84⟩
theorem mw_X12_go : m_CV yX12_go cX12_go 5 none 0 := ⟨⟨in_7_184, in_1_19, by decide +kernel⟩, in_7_183, is_85⟩
theorem mw_X12_isLetter : m_CS yX12_isLetter cX12_isLetter 1 (some .boolean) 1 := ⟨⟨in_7_187, in_1_19, by decide +kernel⟩, in_7_186⟩
theorem mw_X12_isDigit : m_CS yX12_isDigit cX12_isDigit 1 (some .boolean) 1 := ⟨⟨in_7_190, in_1_19, by decide +kernel⟩, in_7_189⟩
theorem mw_X12_tapeAt : m_CV yX12_tapeAt cX12_tapeAt 2 (some .int) 1 := ⟨⟨in_7_194, in_1_19, by decide +kernel⟩, in_7_193, is_86⟩
theorem mw_X12_isWord : m_CV yX12_isWord cX12_isWord 2 (some .boolean) 1 := ⟨⟨in_7_200, in_1_19, by decide +kernel⟩, in_7_199, is_87⟩
theorem mw_X12_wordOf : m_CS yX12_wordOf cX12_wordOf 1 (some .long) 1 := ⟨⟨in_7_203, in_1_19, by decide +kernel⟩, in_7_202⟩
theorem mw_X12_spelt : m_CS yX12_spelt cX12_spelt 8 (some .long) 6 := ⟨⟨in_7_206, in_1_19, by decide +kernel⟩, in_7_205⟩
theorem mw_X12_readFun : m_CV yX12_readFun cX12_readFun 1 (some .boolean) 0 := ⟨⟨in_7_210, in_1_19, by decide +kernel⟩, in_7_209, is_88⟩
theorem mw_X12_isBare : m_CV yX12_isBare cX12_isBare 1 (some .boolean) 0 := ⟨⟨in_7_214, in_1_19, by decide +kernel⟩, in_7_213, is_89⟩
theorem mw_X12_funNow : m_CV yX12_funNow cX12_funNow 1 (some .int) 0 := ⟨⟨in_7_218, in_1_19, by decide +kernel⟩, in_7_217, is_90⟩
theorem mw_X12_bad : m_CV yX12_bad cX12_bad 2 (some .boolean) 1 := ⟨⟨in_7_222, in_1_19, by decide +kernel⟩, in_7_221, is_91⟩
theorem mw_X12_isName : m_CV yX12_isName cX12_isName 2 (some .boolean) 0 := ⟨⟨in_7_226, in_1_19, by decide +kernel⟩, in_7_225, is_92⟩
theorem mw_X12_findIn : m_CS yX12_findIn cX12_findIn 6 (some .int) 4 := ⟨⟨in_7_229, in_1_19, by decide +kernel⟩, in_7_228⟩
theorem mw_X12_readParameter : m_CV yX12_readParameter cX12_readParameter 2 (some .boolean) 0 := ⟨⟨in_7_233, in_1_19, by decide +kernel⟩, in_7_232, is_93⟩
theorem mw_X12_findVar : m_CV yX12_findVar cX12_findVar 1 (some .int) 0 := ⟨⟨in_7_237, in_1_19, by decide +kernel⟩, in_7_236, is_94⟩
theorem mw_X12_readIs : m_CV yX12_readIs cX12_readIs 6 (some .boolean) 0 := ⟨⟨in_8_1, in_1_19, by decide +kernel⟩, in_8_0, is_95⟩
theorem mw_X12_readExpr : m_CV yX12_readExpr cX12_readExpr 4 (some .boolean) 1 := ⟨⟨in_8_5, in_1_19, by decide +kernel⟩, in_8_4, is_96⟩
theorem mw_X12_readVar : m_CV yX12_readVar cX12_readVar 4 (some .boolean) 2 := ⟨⟨in_8_9, in_1_19, by decide +kernel⟩, in_8_8, is_97⟩
theorem mw_X12_readVars : m_CV yX12_readVars cX12_readVars 5 (some .boolean) 3 := ⟨⟨in_8_13, in_1_19, by decide +kernel⟩, in_8_12, is_98⟩
theorem mw_X12_readCalled : m_CV yX12_readCalled cX12_readCalled 4 (some .boolean) 2 := ⟨⟨in_8_17, in_1_19, by decide +kernel⟩, in_8_16, is_99⟩
theorem mw_X12_readWhen : m_CV yX12_readWhen cX12_readWhen 2 (some .boolean) 1 := ⟨⟨in_8_21, in_1_19, by decide +kernel⟩, in_8_20, is_100⟩
theorem mw_X12_readEnd : m_CV yX12_readEnd cX12_readEnd 1 (some .boolean) 0 := ⟨⟨in_8_25, in_1_19, by decide +kernel⟩, in_8_24, is_101⟩
theorem mw_X12_isSign : m_CV yX12_isSign cX12_isSign 2 (some .boolean) 1 := ⟨⟨in_8_29, in_1_19, by decide +kernel⟩, in_8_28, is_102⟩
theorem mw_X12_fault : m_CV yX12_fault cX12_fault 1 (some .int) 0 := ⟨⟨in_8_33, in_1_19, by decide +kernel⟩, in_8_31, in_8_32⟩
theorem mw_X12_fun : m_CV yX12_fun cX12_fun 3 (some .int) 2 := ⟨⟨in_8_37, in_1_19, by decide +kernel⟩, in_8_35, in_8_36⟩
theorem mw_X12_isFun : m_CV yX12_isFun cX12_isFun 2 (some .boolean) 1 := ⟨⟨in_8_41, in_1_19, by decide +kernel⟩, in_8_40, is_103⟩
theorem mw_X12_isIn : m_CS yX12_isIn cX12_isIn 3 (some .boolean) 3 := ⟨⟨in_8_44, in_1_19, by decide +kernel⟩, in_8_43⟩
theorem mw_X12_refuse : m_CV yX12_refuse cX12_refuse 1 (some .int) 0 := ⟨⟨in_8_48, in_1_19, by decide +kernel⟩, in_8_47, is_104⟩
theorem mw_X12_calledBy : m_CV yX12_calledBy cX12_calledBy 4 (some .int) 1 := ⟨⟨in_8_52, in_1_19, by decide +kernel⟩, in_8_51, is_105⟩
theorem mw_X12_isLeft : m_CV yX12_isLeft cX12_isLeft 4 (some .boolean) 1 := ⟨⟨in_8_56, in_1_19, by decide +kernel⟩, in_8_55, is_106⟩
theorem mw_X12_points : m_CV yX12_points cX12_points 3 (some .int) 2 := ⟨⟨in_8_60, in_1_19, by decide +kernel⟩, in_8_58, in_8_59⟩
theorem mw_X12_region : m_CV yX12_region cX12_region 3 (some .int) 2 := ⟨⟨in_8_64, in_1_19, by decide +kernel⟩, in_8_62, in_8_63⟩
theorem mw_X12_isRegion : m_CV yX12_isRegion cX12_isRegion 2 (some .boolean) 1 := ⟨⟨in_8_68, in_1_19, by decide +kernel⟩, in_8_67, is_107⟩
theorem mw_X12_ownersOf : m_CV yX12_ownersOf cX12_ownersOf 4 (some .int) 1 := ⟨⟨in_8_72, in_1_19, by decide +kernel⟩, in_8_71, is_108⟩
theorem mw_X12_isFinite : m_CV yX12_isFinite cX12_isFinite 2 (some .boolean) 1 := ⟨⟨in_8_76, in_1_19, by decide +kernel⟩, in_8_75, is_109⟩
theorem mw_X12_isOuter : m_CV yX12_isOuter cX12_isOuter 2 (some .boolean) 1 := ⟨⟨in_8_80, in_1_19, by decide +kernel⟩, in_8_79, is_110⟩
theorem mw_X12_mainFun : m_CV yX12_mainFun cX12_mainFun 1 (some .int) 0 := ⟨⟨in_8_84, in_1_19, by decide +kernel⟩, in_8_83, is_111⟩
theorem mw_X12_bits : m_CS yX12_bits cX12_bits 3 (some .int) 1 := ⟨⟨in_8_87, in_1_19, by decide +kernel⟩, in_8_86⟩
theorem mw_X12_roomsOf : m_CV yX12_roomsOf cX12_roomsOf 4 (some .int) 1 := ⟨⟨in_8_91, in_1_19, by decide +kernel⟩, in_8_90, is_112⟩
theorem mw_X12_cellsOf : m_CV yX12_cellsOf cX12_cellsOf 4 (some .int) 1 := ⟨⟨in_8_95, in_1_19, by decide +kernel⟩, in_8_94, is_113⟩
theorem mw_X12_span : m_CV yX12_span cX12_span 4 (some .int) 3 := ⟨⟨in_8_99, in_1_19, by decide +kernel⟩, in_8_97, in_8_98⟩
theorem mw_X12_undo : m_CV yX12_undo cX12_undo 1 (some .int) 0 := ⟨⟨in_8_103, in_1_19, by decide +kernel⟩, in_8_101, in_8_102⟩
theorem mw_X12_comeBack : m_CV yX12_comeBack cX12_comeBack 4 none 2 := ⟨⟨in_8_107, in_1_19, by decide +kernel⟩, in_8_106, is_114⟩
theorem mw_X12_load : m_CV yX12_load cX12_load 1 (some .boolean) 0 := ⟨⟨in_8_111, in_1_19, by decide +kernel⟩, in_8_109, in_8_110⟩
theorem mw_X12_canLoad : m_CV yX12_canLoad cX12_canLoad 2 (some .boolean) 1 := ⟨⟨in_8_115, in_1_19, by decide +kernel⟩, in_8_114, is_115⟩
theorem mw_X12_snap : m_CV yX12_snap cX12_snap 2 none 0 := ⟨⟨in_8_119, in_1_19, by decide +kernel⟩, in_8_118, is_116⟩
theorem mw_X12_save : m_CV yX12_save cX12_save 4 none 2 := ⟨⟨in_8_123, in_1_19, by decide +kernel⟩, in_8_122, is_117⟩
theorem mw_X12_loads : m_CV yX12_loads cX12_loads 3 none 1 := ⟨⟨in_8_127, in_1_19, by decide +kernel⟩, in_8_126, is_118⟩
theorem mw_X12_makeRoom : m_CV yX12_makeRoom cX12_makeRoom 2 none 1 := ⟨⟨in_8_131, in_1_19, by decide +kernel⟩, in_8_130, is_119⟩
theorem mw_X12_pushFrame : m_CV yX12_pushFrame cX12_pushFrame 4 none 1 := ⟨⟨in_8_135, in_1_19, by decide +kernel⟩, in_8_134, is_120⟩
theorem mw_X12_setVar : m_CV yX12_setVar cX12_setVar 5 none 4 := ⟨⟨in_8_139, in_1_19, by decide +kernel⟩, in_8_138, is_121⟩
theorem mw_X12_slot : m_CV yX12_slot cX12_slot 3 (some .int) 2 := ⟨⟨in_8_143, in_1_19, by decide +kernel⟩, in_8_142, is_122⟩
theorem mw_X12_steps : m_CV yX12_steps cX12_steps 3 (some .int) 1 := ⟨⟨in_8_147, in_1_19, by decide +kernel⟩, in_8_145, in_8_146⟩
theorem mw_X12_oneStep : m_CV yX12_oneStep cX12_oneStep 4 none 0 := ⟨⟨in_8_151, in_1_19, by decide +kernel⟩, in_8_150, is_123⟩
theorem mw_X12_funOf : m_CV yX12_funOf cX12_funOf 2 (some .int) 1 := ⟨⟨in_8_155, in_1_19, by decide +kernel⟩, in_8_154, is_124⟩
theorem mw_X12_whyStop : m_CV yX12_whyStop cX12_whyStop 3 (some .int) 1 := ⟨⟨in_8_159, in_1_19, by decide +kernel⟩, in_8_158, is_125⟩
theorem mw_X12_lineOf : m_CV yX12_lineOf cX12_lineOf 2 (some .int) 1 := ⟨⟨in_8_163, in_1_19, by decide +kernel⟩, in_8_162, is_126⟩
theorem mw_X12_kindAt : m_CV yX12_kindAt cX12_kindAt 3 (some .int) 2 := ⟨⟨in_8_167, in_1_19, by decide +kernel⟩, in_8_166, is_127⟩
theorem mw_X12_calls : m_CV yX12_calls cX12_calls 3 (some .boolean) 1 := ⟨⟨in_8_171, in_1_19, by decide +kernel⟩, in_8_170, is_128⟩
theorem mw_X12_valueAt : m_CV yX12_valueAt cX12_valueAt 3 (some .int) 2 := ⟨⟨in_8_175, in_1_19, by decide +kernel⟩, in_8_174, is_129⟩
theorem mw_X12_goesAhead : m_CV yX12_goesAhead cX12_goesAhead 2 (some .boolean) 1 := ⟨⟨in_8_179, in_1_19, by decide +kernel⟩, in_8_178, is_130⟩
theorem mw_X12_does : m_CV yX12_does cX12_does 4 none 1 := ⟨⟨in_8_183, in_1_19, by decide +kernel⟩, in_8_182, is_131⟩
theorem mw_X12_gives : m_CV yX12_gives cX12_gives 8 none 2 := ⟨⟨in_8_187, in_1_19, by decide +kernel⟩, in_8_186, is_132⟩
theorem mw_X12_frees : m_CV yX12_frees cX12_frees 5 none 1 := ⟨⟨in_8_191, in_1_19, by decide +kernel⟩, in_8_190, is_133⟩
theorem mw_X12_latestRoom : m_CV yX12_latestRoom cX12_latestRoom 3 (some .int) 1 := ⟨⟨in_8_195, in_1_19, by decide +kernel⟩, in_8_194, is_134⟩
theorem mw_X12_freeRoom : m_CV yX12_freeRoom cX12_freeRoom 3 none 1 := ⟨⟨in_8_199, in_1_19, by decide +kernel⟩, in_8_198, is_135⟩
theorem mw_X12_givesAt : m_CV yX12_givesAt cX12_givesAt 3 none 2 := ⟨⟨in_8_203, in_1_19, by decide +kernel⟩, in_8_202, is_136⟩
theorem mw_X12_layCell : m_CV yX12_layCell cX12_layCell 6 (some .int) 1 := ⟨⟨in_8_207, in_1_19, by decide +kernel⟩, in_8_206, is_137⟩
theorem mw_X12_callsFun : m_CV yX12_callsFun cX12_callsFun 6 none 1 := ⟨⟨in_8_211, in_1_19, by decide +kernel⟩, in_8_210, is_138⟩
theorem mw_X12_now : m_CV yX12_now cX12_now 3 (some .int) 1 := ⟨⟨in_8_215, in_1_19, by decide +kernel⟩, in_8_213, in_8_214⟩
theorem mw_X12_kind : m_CV yX12_kind cX12_kind 3 (some .int) 2 := ⟨⟨in_8_219, in_1_19, by decide +kernel⟩, in_8_217, in_8_218⟩
theorem mw_X12_isVar : m_CV yX12_isVar cX12_isVar 3 (some .boolean) 2 := ⟨⟨in_8_223, in_1_19, by decide +kernel⟩, in_8_222, is_139⟩
theorem mw_X12_value : m_CV yX12_value cX12_value 3 (some .int) 2 := ⟨⟨in_8_227, in_1_19, by decide +kernel⟩, in_8_225, in_8_226⟩
theorem mw_X12_cell : m_CV yX12_cell cX12_cell 3 (some .int) 2 := ⟨⟨in_8_231, in_1_19, by decide +kernel⟩, in_8_229, in_8_230⟩
theorem mw_X12_isCell : m_CV yX12_isCell cX12_isCell 2 (some .boolean) 1 := ⟨⟨in_8_235, in_1_19, by decide +kernel⟩, in_8_234, is_140⟩
theorem mw_X12_in : m_CV yX12_in cX12_in 3 (some .int) 2 := ⟨⟨in_8_239, in_1_19, by decide +kernel⟩, in_8_237, in_8_238⟩
theorem mw_X12_gave : m_CV yX12_gave cX12_gave 1 (some .int) 0 := ⟨⟨in_9_3, in_1_19, by decide +kernel⟩, in_9_1, in_9_2⟩
theorem mw_X12_result : m_CV yX12_result cX12_result 1 (some .int) 0 := ⟨⟨in_9_7, in_1_19, by decide +kernel⟩, in_9_5, in_9_6⟩
theorem mw_X12_room : m_CV yX12_room cX12_room 2 (some .int) 1 := ⟨⟨in_9_11, in_1_19, by decide +kernel⟩, in_9_9, in_9_10⟩
theorem mw_X12_roomful : m_CV yX12_roomful cX12_roomful 4 (some .int) 1 := ⟨⟨in_9_15, in_1_19, by decide +kernel⟩, in_9_13, in_9_14⟩
theorem mw_X12_reached : m_CV yX12_reached cX12_reached 1 (some .int) 0 := ⟨⟨in_9_19, in_1_19, by decide +kernel⟩, in_9_17, in_9_18⟩
theorem mw_X12_markReached : m_CV yX12_markReached cX12_markReached 3 (some .int) 0 := ⟨⟨in_9_23, in_1_19, by decide +kernel⟩, in_9_22, is_141⟩
theorem mw_X12_comesTo : m_CV yX12_comesTo cX12_comesTo 3 none 2 := ⟨⟨in_9_27, in_1_19, by decide +kernel⟩, in_9_26, is_142⟩
theorem mw_X12_isReached : m_CV yX12_isReached cX12_isReached 2 (some .int) 1 := ⟨⟨in_9_31, in_1_19, by decide +kernel⟩, in_9_29, in_9_30⟩
theorem mw_X12_drag : m_CV yX12_drag cX12_drag 1 (some .int) 0 := ⟨⟨in_9_35, in_1_19, by decide +kernel⟩, in_9_33, in_9_34⟩
theorem mw_X12_dragNow : m_CV yX12_dragNow cX12_dragNow 1 (some .int) 0 := ⟨⟨in_9_39, in_1_19, by decide +kernel⟩, in_9_38, is_143⟩
theorem mw_X12_run : m_CV yX12_run cX12_run 3 (some .int) 0 := ⟨⟨in_9_43, in_1_19, by decide +kernel⟩, in_9_41, in_9_42⟩
theorem mw_X12_ran : m_CV yX12_ran cX12_ran 2 (some .int) 1 := ⟨⟨in_9_47, in_1_19, by decide +kernel⟩, in_9_45, in_9_46⟩
theorem mw_X12_odds : m_CV yX12_odds cX12_odds 5 (some .int) 2 := ⟨⟨in_9_51, in_1_19, by decide +kernel⟩, in_9_49, in_9_50⟩
theorem mw_X12_ends : m_CV yX12_ends cX12_ends 3 (some .boolean) 1 := ⟨⟨in_9_55, in_1_19, by decide +kernel⟩, in_9_54, is_144⟩
theorem mw_X12_draw : m_CV yX12_draw cX12_draw 2 (some .int) 1 := ⟨⟨in_9_59, in_1_19, by decide +kernel⟩, in_9_58, is_145⟩
theorem mw_X12_sentence : m_CV yX12_sentence cX12_sentence 2 (some .int) 0 := ⟨⟨in_9_64, in_1_19, by decide +kernel⟩, in_9_62, in_9_63⟩
theorem mw_X12_readOr : m_CV yX12_readOr cX12_readOr 2 (some .boolean) 0 := ⟨⟨in_9_68, in_1_19, by decide +kernel⟩, in_9_67, is_146⟩
theorem mw_X12_readAnd : m_CV yX12_readAnd cX12_readAnd 2 (some .boolean) 0 := ⟨⟨in_9_72, in_1_19, by decide +kernel⟩, in_9_71, is_147⟩
theorem mw_X12_readSaid : m_CV yX12_readSaid cX12_readSaid 4 (some .boolean) 0 := ⟨⟨in_9_76, in_1_19, by decide +kernel⟩, in_9_75, is_148⟩
theorem mw_X12_readBracket : m_CV yX12_readBracket cX12_readBracket 1 (some .boolean) 0 := ⟨⟨in_9_80, in_1_19, by decide +kernel⟩, in_9_79, is_149⟩
theorem mw_X12_readNot : m_CV yX12_readNot cX12_readNot 1 (some .boolean) 0 := ⟨⟨in_9_84, in_1_19, by decide +kernel⟩, in_9_83, is_150⟩
theorem mw_X12_saysOne : m_CV yX12_saysOne cX12_saysOne 6 (some .int) 4 := ⟨⟨in_9_88, in_1_19, by decide +kernel⟩, in_9_87, is_151⟩
theorem mw_X12_readOf : m_CV yX12_readOf cX12_readOf 2 (some .boolean) 1 := ⟨⟨in_9_92, in_1_19, by decide +kernel⟩, in_9_91, is_152⟩
theorem mw_X12_readFunName : m_CV yX12_readFunName cX12_readFunName 1 (some .boolean) 0 := ⟨⟨in_9_96, in_1_19, by decide +kernel⟩, in_9_95, is_153⟩
theorem mw_X12_readCompare : m_CV yX12_readCompare cX12_readCompare 3 (some .boolean) 1 := ⟨⟨in_9_100, in_1_19, by decide +kernel⟩, in_9_99, is_154⟩
theorem mw_X12_readNumber : m_CV yX12_readNumber cX12_readNumber 3 (some .boolean) 2 := ⟨⟨in_9_104, in_1_19, by decide +kernel⟩, in_9_103, is_155⟩
theorem mw_X12_said : m_CV yX12_said cX12_said 4 (some .int) 1 := ⟨⟨in_9_108, in_1_19, by decide +kernel⟩, in_9_106, in_9_107⟩
theorem mw_X12_holds : m_CV yX12_holds cX12_holds 8 (some .boolean) 2 := ⟨⟨in_9_112, in_1_19, by decide +kernel⟩, in_9_111, is_156⟩
theorem mw_X12_image : m_CV yX12_image cX12_image 3 (some .boolean) 1 := ⟨⟨in_9_116, in_1_19, by decide +kernel⟩, in_9_114, in_9_115⟩
theorem mw_X12_restore : m_CV yX12_restore cX12_restore 3 (some .boolean) 1 := ⟨⟨in_9_120, in_1_19, by decide +kernel⟩, in_9_118, in_9_119⟩
theorem mw_X12_count : m_CV yX12_count cX12_count 2 (some .int) 1 := ⟨⟨in_9_124, in_1_19, by decide +kernel⟩, in_9_122, in_9_123⟩
theorem mw_X12_finiteMany : m_CV yX12_finiteMany cX12_finiteMany 3 (some .int) 0 := ⟨⟨in_9_128, in_1_19, by decide +kernel⟩, in_9_127, is_157⟩
