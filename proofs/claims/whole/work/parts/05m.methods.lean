/-! The methods: name, own class, bytes, locals, return type, kind, number of parameters; and what a caller needs of the tables. -/
def kX10_init : mM := (yX10_init, RX10, cX10_init, 2, none, 2, 0)
theorem mkX10_init : zMok kX10_init := ⟨zTw_of (i := 1025) (by decide +kernel) rfl, zTw_of (i := 1001) (by decide +kernel) rfl, ⟨by decide +kernel, by decide +kernel, by decide +kernel⟩, by decide, (fun h => (by cases h)), (fun h => (by cases h))⟩
def kX6_init : mM := (yX6_init, RX6, cX6_init, 1, none, 2, 0)
theorem mkX6_init : zMok kX6_init := ⟨zTw_of (i := 1033) (by decide +kernel) rfl, zTw_of (i := 1002) (by decide +kernel) rfl, ⟨by decide +kernel, by decide +kernel, by decide +kernel⟩, by decide, (fun h => (by cases h)), (fun h => (by cases h))⟩
def kX2_init : mM := (yX2_init, RX2, cX2_init, 2, none, 2, 1)
theorem mkX2_init : zMok kX2_init := ⟨zTw_of (i := 1047) (by decide +kernel) rfl, zTw_of (i := 1003) (by decide +kernel) rfl, ⟨by decide +kernel, by decide +kernel, by decide +kernel⟩, by decide, (fun h => (by cases h)), (fun h => (by cases h))⟩
def kX7_init : mM := (yX7_init, RX7, cX7_init, 1, none, 2, 0)
theorem mkX7_init : zMok kX7_init := ⟨zTw_of (i := 1065) (by decide +kernel) rfl, zTw_of (i := 1004) (by decide +kernel) rfl, ⟨by decide +kernel, by decide +kernel, by decide +kernel⟩, by decide, (fun h => (by cases h)), (fun h => (by cases h))⟩
def kX4_init : mM := (yX4_init, RX4, cX4_init, 1, none, 2, 0)
theorem mkX4_init : zMok kX4_init := ⟨zTw_of (i := 1078) (by decide +kernel) rfl, zTw_of (i := 1005) (by decide +kernel) rfl, ⟨by decide +kernel, by decide +kernel, by decide +kernel⟩, by decide, (fun h => (by cases h)), (fun h => (by cases h))⟩
def kX9_init : mM := (yX9_init, RX9, cX9_init, 1, none, 2, 0)
theorem mkX9_init : zMok kX9_init := ⟨zTw_of (i := 1084) (by decide +kernel) rfl, zTw_of (i := 1006) (by decide +kernel) rfl, ⟨by decide +kernel, by decide +kernel, by decide +kernel⟩, by decide, (fun h => (by cases h)), (fun h => (by cases h))⟩
def kX8_init : mM := (yX8_init, RX8, cX8_init, 1, none, 2, 0)
theorem mkX8_init : zMok kX8_init := ⟨zTw_of (i := 1106) (by decide +kernel) rfl, zTw_of (i := 1007) (by decide +kernel) rfl, ⟨by decide +kernel, by decide +kernel, by decide +kernel⟩, by decide, (fun h => (by cases h)), (fun h => (by cases h))⟩
def kX3_init : mM := (yX3_init, RX3, cX3_init, 2, none, 2, 1)
theorem mkX3_init : zMok kX3_init := ⟨zTw_of (i := 1136) (by decide +kernel) rfl, zTw_of (i := 1008) (by decide +kernel) rfl, ⟨by decide +kernel, by decide +kernel, by decide +kernel⟩, by decide, (fun h => (by cases h)), (fun h => (by cases h))⟩
def kX0_init : mM := (yX0_init, RX0, cX0_init, 1, none, 2, 0)
theorem mkX0_init : zMok kX0_init := ⟨zTw_of (i := 1142) (by decide +kernel) rfl, zTw_of (i := 1009) (by decide +kernel) rfl, ⟨by decide +kernel, by decide +kernel, by decide +kernel⟩, by decide, (fun h => (by cases h)), (fun h => (by cases h))⟩
def kX1_init : mM := (yX1_init, RX1, cX1_init, 2, none, 2, 0)
theorem mkX1_init : zMok kX1_init := ⟨zTw_of (i := 1187) (by decide +kernel) rfl, zTw_of (i := 1010) (by decide +kernel) rfl, ⟨by decide +kernel, by decide +kernel, by decide +kernel⟩, by decide, (fun h => (by cases h)), (fun h => (by cases h))⟩
def kX5_init : mM := (yX5_init, RX5, cX5_init, 1, none, 2, 0)
theorem mkX5_init : zMok kX5_init := ⟨zTw_of (i := 1219) (by decide +kernel) rfl, zTw_of (i := 1011) (by decide +kernel) rfl, ⟨by decide +kernel, by decide +kernel, by decide +kernel⟩, by decide, (fun h => (by cases h)), (fun h => (by cases h))⟩
def kJ0_length_8abf5 : mM := (yJ0_length_8abf5, RJ0, cJ0_length_8abf5, 1, some .int, 1, 0)
theorem mkJ0_length_8abf5 : zMok kJ0_length_8abf5 := ⟨zTw_of (i := 1235) (by decide +kernel) rfl, zTw_of (i := 1012) (by decide +kernel) rfl, ⟨by decide +kernel, by decide +kernel, by decide +kernel⟩, by decide, (fun h => (by cases h)), (fun _ => ⟨zTw_of (i := 1233) (by decide +kernel) rfl, zTw_of (i := 1234) (by decide +kernel) rfl⟩)⟩
def kJ0_coder_7d493 : mM := (yJ0_coder_7d493, RJ0, cJ0_coder_7d493, 1, some .byte, 1, 0)
theorem mkJ0_coder_7d493 : zMok kJ0_coder_7d493 := ⟨zTw_of (i := 1239) (by decide +kernel) rfl, zTw_of (i := 1012) (by decide +kernel) rfl, ⟨by decide +kernel, by decide +kernel, by decide +kernel⟩, by decide, (fun h => (by cases h)), (fun _ => ⟨zTw_of (i := 1237) (by decide +kernel) rfl, zTw_of (i := 1238) (by decide +kernel) rfl⟩)⟩
def kJ0_charAt_5068e : mM := (yJ0_charAt_5068e, RJ0, cJ0_charAt_5068e, 2, some .char, 1, 1)
theorem mkJ0_charAt_5068e : zMok kJ0_charAt_5068e := ⟨zTw_of (i := 2005) (by decide +kernel) rfl, zTw_of (i := 1012) (by decide +kernel) rfl, ⟨by decide +kernel, by decide +kernel, by decide +kernel⟩, by decide, (fun h => (by cases h)), (fun _ => ⟨zTw_of (i := 2003) (by decide +kernel) rfl, zTw_of (i := 2004) (by decide +kernel) rfl⟩)⟩
def kJ0_isLatin1_aae02 : mM := (yJ0_isLatin1_aae02, RJ0, cJ0_isLatin1_aae02, 1, some .boolean, 1, 0)
theorem mkJ0_isLatin1_aae02 : zMok kJ0_isLatin1_aae02 := ⟨zTw_of (i := 2009) (by decide +kernel) rfl, zTw_of (i := 1012) (by decide +kernel) rfl, ⟨by decide +kernel, by decide +kernel, by decide +kernel⟩, by decide, (fun h => (by cases h)), (fun _ => ⟨zTw_of (i := 2007) (by decide +kernel) rfl, zTw_of (i := 2008) (by decide +kernel) rfl⟩)⟩
def kJ1_charAt_3b067 : mM := (yJ1_charAt_3b067, RJ1, cJ1_charAt_3b067, 2, some .char, 0, 2)
theorem mkJ1_charAt_3b067 : zMok kJ1_charAt_3b067 := ⟨zTw_of (i := 2012) (by decide +kernel) rfl, zTw_of (i := 1013) (by decide +kernel) rfl, ⟨by decide +kernel, by decide +kernel, by decide +kernel⟩, by decide, (fun _ => zTw_of (i := 2011) (by decide +kernel) rfl), (fun h => (by cases h))⟩
def kJ0_checkIndex_df160 : mM := (yJ0_checkIndex_df160, RJ0, cJ0_checkIndex_df160, 2, none, 0, 2)
theorem mkJ0_checkIndex_df160 : zMok kJ0_checkIndex_df160 := ⟨zTw_of (i := 2015) (by decide +kernel) rfl, zTw_of (i := 1012) (by decide +kernel) rfl, ⟨by decide +kernel, by decide +kernel, by decide +kernel⟩, by decide, (fun _ => zTw_of (i := 2014) (by decide +kernel) rfl), (fun h => (by cases h))⟩
def kJ3_checkIndex_8e157 : mM := (yJ3_checkIndex_8e157, RJ3, cJ3_checkIndex_8e157, 3, some .int, 0, 3)
theorem mkJ3_checkIndex_8e157 : zMok kJ3_checkIndex_8e157 := ⟨zTw_of (i := 2020) (by decide +kernel) rfl, zTw_of (i := 1014) (by decide +kernel) rfl, ⟨by decide +kernel, by decide +kernel, by decide +kernel⟩, by decide, (fun _ => zTw_of (i := 2019) (by decide +kernel) rfl), (fun h => (by cases h))⟩
def kJ2_charAt_3b067 : mM := (yJ2_charAt_3b067, RJ2, cJ2_charAt_3b067, 2, some .char, 0, 2)
theorem mkJ2_charAt_3b067 : zMok kJ2_charAt_3b067 := ⟨zTw_of (i := 2023) (by decide +kernel) rfl, zTw_of (i := 1015) (by decide +kernel) rfl, ⟨by decide +kernel, by decide +kernel, by decide +kernel⟩, by decide, (fun _ => zTw_of (i := 2022) (by decide +kernel) rfl), (fun h => (by cases h))⟩
def kJ2_checkIndex_2214a : mM := (yJ2_checkIndex_2214a, RJ2, cJ2_checkIndex_2214a, 2, none, 0, 2)
theorem mkJ2_checkIndex_2214a : zMok kJ2_checkIndex_2214a := ⟨zTw_of (i := 2026) (by decide +kernel) rfl, zTw_of (i := 1015) (by decide +kernel) rfl, ⟨by decide +kernel, by decide +kernel, by decide +kernel⟩, by decide, (fun _ => zTw_of (i := 2025) (by decide +kernel) rfl), (fun h => (by cases h))⟩
def kJ2_length_9d52b : mM := (yJ2_length_9d52b, RJ2, cJ2_length_9d52b, 1, some .int, 0, 1)
theorem mkJ2_length_9d52b : zMok kJ2_length_9d52b := ⟨zTw_of (i := 2029) (by decide +kernel) rfl, zTw_of (i := 1015) (by decide +kernel) rfl, ⟨by decide +kernel, by decide +kernel, by decide +kernel⟩, by decide, (fun _ => zTw_of (i := 2028) (by decide +kernel) rfl), (fun h => (by cases h))⟩
def kJ2_getChar_3b067 : mM := (yJ2_getChar_3b067, RJ2, cJ2_getChar_3b067, 2, some .char, 0, 2)
theorem mkJ2_getChar_3b067 : zMok kJ2_getChar_3b067 := ⟨zTw_of (i := 2033) (by decide +kernel) rfl, zTw_of (i := 1015) (by decide +kernel) rfl, ⟨by decide +kernel, by decide +kernel, by decide +kernel⟩, by decide, (fun _ => zTw_of (i := 2032) (by decide +kernel) rfl), (fun h => (by cases h))⟩
def kX7_add : mM := (yX7_add, RX7, cX7_add, 2, some .boolean, 1, 1)
theorem mkX7_add : zMok kX7_add := ⟨zTw_of (i := 2043) (by decide +kernel) rfl, zTw_of (i := 1004) (by decide +kernel) rfl, ⟨by decide +kernel, by decide +kernel, by decide +kernel⟩, by decide, (fun h => (by cases h)), (fun _ => ⟨zTw_of (i := 2041) (by decide +kernel) rfl, zTw_of (i := 2042) (by decide +kernel) rfl⟩)⟩
def kX10_text : mM := (yX10_text, RX10, cX10_text, 2, some .int, 1, 0)
theorem mkX10_text : zMok kX10_text := ⟨zTw_of (i := 2047) (by decide +kernel) rfl, zTw_of (i := 1001) (by decide +kernel) rfl, ⟨by decide +kernel, by decide +kernel, by decide +kernel⟩, by decide, (fun h => (by cases h)), (fun _ => ⟨zTw_of (i := 2045) (by decide +kernel) rfl, zTw_of (i := 2046) (by decide +kernel) rfl⟩)⟩
def kX4_read : mM := (yX4_read, RX4, cX4_read, 3, some .int, 1, 1)
theorem mkX4_read : zMok kX4_read := ⟨zTw_of (i := 2051) (by decide +kernel) rfl, zTw_of (i := 1005) (by decide +kernel) rfl, ⟨by decide +kernel, by decide +kernel, by decide +kernel⟩, by decide, (fun h => (by cases h)), (fun _ => ⟨zTw_of (i := 2049) (by decide +kernel) rfl, zTw_of (i := 2050) (by decide +kernel) rfl⟩)⟩
def kX9_split : mM := (yX9_split, RX9, cX9_split, 4, none, 1, 1)
theorem mkX9_split : zMok kX9_split := ⟨zTw_of (i := 2055) (by decide +kernel) rfl, zTw_of (i := 1006) (by decide +kernel) rfl, ⟨by decide +kernel, by decide +kernel, by decide +kernel⟩, by decide, (fun h => (by cases h)), (fun _ => ⟨zTw_of (i := 2053) (by decide +kernel) rfl, zTw_of (i := 2054) (by decide +kernel) rfl⟩)⟩
def kX7_size : mM := (yX7_size, RX7, cX7_size, 1, some .int, 1, 0)
theorem mkX7_size : zMok kX7_size := ⟨zTw_of (i := 2059) (by decide +kernel) rfl, zTw_of (i := 1004) (by decide +kernel) rfl, ⟨by decide +kernel, by decide +kernel, by decide +kernel⟩, by decide, (fun h => (by cases h)), (fun _ => ⟨zTw_of (i := 2057) (by decide +kernel) rfl, zTw_of (i := 2058) (by decide +kernel) rfl⟩)⟩
def kX9_take : mM := (yX9_take, RX9, cX9_take, 4, some .int, 1, 2)
theorem mkX9_take : zMok kX9_take := ⟨zTw_of (i := 2063) (by decide +kernel) rfl, zTw_of (i := 1006) (by decide +kernel) rfl, ⟨by decide +kernel, by decide +kernel, by decide +kernel⟩, by decide, (fun h => (by cases h)), (fun _ => ⟨zTw_of (i := 2062) (by decide +kernel) rfl, zTw_ofP (i := 0) (by decide +kernel) rfl⟩)⟩
def kX7_byteAt : mM := (yX7_byteAt, RX7, cX7_byteAt, 2, some .int, 1, 1)
theorem mkX7_byteAt : zMok kX7_byteAt := ⟨zTw_of (i := 2067) (by decide +kernel) rfl, zTw_of (i := 1004) (by decide +kernel) rfl, ⟨by decide +kernel, by decide +kernel, by decide +kernel⟩, by decide, (fun h => (by cases h)), (fun _ => ⟨zTw_of (i := 2065) (by decide +kernel) rfl, zTw_of (i := 2066) (by decide +kernel) rfl⟩)⟩
def kX9_isLetter : mM := (yX9_isLetter, RX9, cX9_isLetter, 1, some .boolean, 0, 1)
theorem mkX9_isLetter : zMok kX9_isLetter := ⟨zTw_of (i := 2070) (by decide +kernel) rfl, zTw_of (i := 1006) (by decide +kernel) rfl, ⟨by decide +kernel, by decide +kernel, by decide +kernel⟩, by decide, (fun _ => zTw_of (i := 2069) (by decide +kernel) rfl), (fun h => (by cases h))⟩
def kX9_takeWord : mM := (yX9_takeWord, RX9, cX9_takeWord, 6, some .int, 1, 2)
theorem mkX9_takeWord : zMok kX9_takeWord := ⟨zTw_of (i := 2074) (by decide +kernel) rfl, zTw_of (i := 1006) (by decide +kernel) rfl, ⟨by decide +kernel, by decide +kernel, by decide +kernel⟩, by decide, (fun h => (by cases h)), (fun _ => ⟨zTw_of (i := 2073) (by decide +kernel) rfl, zTw_ofP (i := 1) (by decide +kernel) rfl⟩)⟩
def kX9_spelling : mM := (yX9_spelling, RX9, cX9_spelling, 1, some (.object "java/lang/String"), 0, 1)
theorem mkX9_spelling : zMok kX9_spelling := ⟨zTw_of (i := 2077) (by decide +kernel) rfl, zTw_of (i := 1006) (by decide +kernel) rfl, ⟨by decide +kernel, by decide +kernel, by decide +kernel⟩, by decide, (fun _ => zTw_of (i := 2076) (by decide +kernel) rfl), (fun h => (by cases h))⟩
def kX7_spells : mM := (yX7_spells, RX7, cX7_spells, 5, some .boolean, 1, 3)
theorem mkX7_spells : zMok kX7_spells := ⟨zTw_of (i := 2093) (by decide +kernel) rfl, zTw_of (i := 1004) (by decide +kernel) rfl, ⟨by decide +kernel, by decide +kernel, by decide +kernel⟩, by decide, (fun h => (by cases h)), (fun _ => ⟨zTw_of (i := 2091) (by decide +kernel) rfl, zTw_of (i := 2092) (by decide +kernel) rfl⟩)⟩
def kX9_add : mM := (yX9_add, RX9, cX9_add, 4, none, 1, 3)
theorem mkX9_add : zMok kX9_add := ⟨zTw_of (i := 2099) (by decide +kernel) rfl, zTw_of (i := 1006) (by decide +kernel) rfl, ⟨by decide +kernel, by decide +kernel, by decide +kernel⟩, by decide, (fun h => (by cases h)), (fun _ => ⟨zTw_of (i := 2098) (by decide +kernel) rfl, zTw_ofP (i := 2) (by decide +kernel) rfl⟩)⟩
def kX9_isDigit : mM := (yX9_isDigit, RX9, cX9_isDigit, 1, some .boolean, 0, 1)
theorem mkX9_isDigit : zMok kX9_isDigit := ⟨zTw_of (i := 2102) (by decide +kernel) rfl, zTw_of (i := 1006) (by decide +kernel) rfl, ⟨by decide +kernel, by decide +kernel, by decide +kernel⟩, by decide, (fun _ => zTw_of (i := 2101) (by decide +kernel) rfl), (fun h => (by cases h))⟩
def kX9_takeNumber : mM := (yX9_takeNumber, RX9, cX9_takeNumber, 5, some .int, 1, 2)
theorem mkX9_takeNumber : zMok kX9_takeNumber := ⟨zTw_of (i := 2106) (by decide +kernel) rfl, zTw_of (i := 1006) (by decide +kernel) rfl, ⟨by decide +kernel, by decide +kernel, by decide +kernel⟩, by decide, (fun h => (by cases h)), (fun _ => ⟨zTw_of (i := 2105) (by decide +kernel) rfl, zTw_ofP (i := 3) (by decide +kernel) rfl⟩)⟩
def kJ0_indexOf_0f7a4 : mM := (yJ0_indexOf_0f7a4, RJ0, cJ0_indexOf_0f7a4, 2, some .int, 1, 1)
theorem mkJ0_indexOf_0f7a4 : zMok kJ0_indexOf_0f7a4 := ⟨zTw_of (i := 2111) (by decide +kernel) rfl, zTw_of (i := 1012) (by decide +kernel) rfl, ⟨by decide +kernel, by decide +kernel, by decide +kernel⟩, by decide, (fun h => (by cases h)), (fun _ => ⟨zTw_of (i := 2109) (by decide +kernel) rfl, zTw_of (i := 2110) (by decide +kernel) rfl⟩)⟩
def kJ0_indexOf_7cf53 : mM := (yJ0_indexOf_7cf53, RJ0, cJ0_indexOf_7cf53, 3, some .int, 1, 2)
theorem mkJ0_indexOf_7cf53 : zMok kJ0_indexOf_7cf53 := ⟨zTw_of (i := 2115) (by decide +kernel) rfl, zTw_of (i := 1012) (by decide +kernel) rfl, ⟨by decide +kernel, by decide +kernel, by decide +kernel⟩, by decide, (fun h => (by cases h)), (fun _ => ⟨zTw_of (i := 2113) (by decide +kernel) rfl, zTw_of (i := 2114) (by decide +kernel) rfl⟩)⟩
def kJ1_indexOf_4cfef : mM := (yJ1_indexOf_4cfef, RJ1, cJ1_indexOf_4cfef, 4, some .int, 0, 4)
theorem mkJ1_indexOf_4cfef : zMok kJ1_indexOf_4cfef := ⟨zTw_of (i := 2119) (by decide +kernel) rfl, zTw_of (i := 1013) (by decide +kernel) rfl, ⟨by decide +kernel, by decide +kernel, by decide +kernel⟩, by decide, (fun _ => zTw_of (i := 2118) (by decide +kernel) rfl), (fun h => (by cases h))⟩
def kJ1_canEncode_9a6ad : mM := (yJ1_canEncode_9a6ad, RJ1, cJ1_canEncode_9a6ad, 1, some .boolean, 0, 1)
theorem mkJ1_canEncode_9a6ad : zMok kJ1_canEncode_9a6ad := ⟨zTw_of (i := 2122) (by decide +kernel) rfl, zTw_of (i := 1013) (by decide +kernel) rfl, ⟨by decide +kernel, by decide +kernel, by decide +kernel⟩, by decide, (fun _ => zTw_of (i := 2121) (by decide +kernel) rfl), (fun h => (by cases h))⟩
def kJ9_max_7cf53 : mM := (yJ9_max_7cf53, RJ9, cJ9_max_7cf53, 2, some .int, 0, 2)
theorem mkJ9_max_7cf53 : zMok kJ9_max_7cf53 := ⟨zTw_of (i := 2125) (by decide +kernel) rfl, zTw_of (i := 1016) (by decide +kernel) rfl, ⟨by decide +kernel, by decide +kernel, by decide +kernel⟩, by decide, (fun _ => zTw_of (i := 2124) (by decide +kernel) rfl), (fun h => (by cases h))⟩
def kJ9_min_7cf53 : mM := (yJ9_min_7cf53, RJ9, cJ9_min_7cf53, 2, some .int, 0, 2)
theorem mkJ9_min_7cf53 : zMok kJ9_min_7cf53 := ⟨zTw_of (i := 2128) (by decide +kernel) rfl, zTw_of (i := 1016) (by decide +kernel) rfl, ⟨by decide +kernel, by decide +kernel, by decide +kernel⟩, by decide, (fun _ => zTw_of (i := 2127) (by decide +kernel) rfl), (fun h => (by cases h))⟩
def kJ1_indexOfChar_4cfef : mM := (yJ1_indexOfChar_4cfef, RJ1, cJ1_indexOfChar_4cfef, 6, some .int, 0, 4)
theorem mkJ1_indexOfChar_4cfef : zMok kJ1_indexOfChar_4cfef := ⟨zTw_of (i := 2131) (by decide +kernel) rfl, zTw_of (i := 1013) (by decide +kernel) rfl, ⟨by decide +kernel, by decide +kernel, by decide +kernel⟩, by decide, (fun _ => zTw_of (i := 2130) (by decide +kernel) rfl), (fun h => (by cases h))⟩
def kJ2_indexOf_4cfef : mM := (yJ2_indexOf_4cfef, RJ2, cJ2_indexOf_4cfef, 4, some .int, 0, 4)
theorem mkJ2_indexOf_4cfef : zMok kJ2_indexOf_4cfef := ⟨zTw_of (i := 2134) (by decide +kernel) rfl, zTw_of (i := 1015) (by decide +kernel) rfl, ⟨by decide +kernel, by decide +kernel, by decide +kernel⟩, by decide, (fun _ => zTw_of (i := 2133) (by decide +kernel) rfl), (fun h => (by cases h))⟩
def kJ2_indexOfChar_4cfef : mM := (yJ2_indexOfChar_4cfef, RJ2, cJ2_indexOfChar_4cfef, 4, some .int, 0, 4)
theorem mkJ2_indexOfChar_4cfef : zMok kJ2_indexOfChar_4cfef := ⟨zTw_of (i := 2140) (by decide +kernel) rfl, zTw_of (i := 1015) (by decide +kernel) rfl, ⟨by decide +kernel, by decide +kernel, by decide +kernel⟩, by decide, (fun _ => zTw_of (i := 2139) (by decide +kernel) rfl), (fun h => (by cases h))⟩
def kJ2_checkBoundsBeginEnd_d044e : mM := (yJ2_checkBoundsBeginEnd_d044e, RJ2, cJ2_checkBoundsBeginEnd_d044e, 3, none, 0, 3)
theorem mkJ2_checkBoundsBeginEnd_d044e : zMok kJ2_checkBoundsBeginEnd_d044e := ⟨zTw_of (i := 2143) (by decide +kernel) rfl, zTw_of (i := 1015) (by decide +kernel) rfl, ⟨by decide +kernel, by decide +kernel, by decide +kernel⟩, by decide, (fun _ => zTw_of (i := 2142) (by decide +kernel) rfl), (fun h => (by cases h))⟩
def kJ0_checkBoundsBeginEnd_23922 : mM := (yJ0_checkBoundsBeginEnd_23922, RJ0, cJ0_checkBoundsBeginEnd_23922, 3, none, 0, 3)
theorem mkJ0_checkBoundsBeginEnd_23922 : zMok kJ0_checkBoundsBeginEnd_23922 := ⟨zTw_of (i := 2146) (by decide +kernel) rfl, zTw_of (i := 1012) (by decide +kernel) rfl, ⟨by decide +kernel, by decide +kernel, by decide +kernel⟩, by decide, (fun _ => zTw_of (i := 2145) (by decide +kernel) rfl), (fun h => (by cases h))⟩
def kJ3_checkFromToIndex_8c36e : mM := (yJ3_checkFromToIndex_8c36e, RJ3, cJ3_checkFromToIndex_8c36e, 4, some .int, 0, 4)
theorem mkJ3_checkFromToIndex_8c36e : zMok kJ3_checkFromToIndex_8c36e := ⟨zTw_of (i := 2149) (by decide +kernel) rfl, zTw_of (i := 1014) (by decide +kernel) rfl, ⟨by decide +kernel, by decide +kernel, by decide +kernel⟩, by decide, (fun _ => zTw_of (i := 2148) (by decide +kernel) rfl), (fun h => (by cases h))⟩
def kJ2_indexOfCharUnsafe_4cfef : mM := (yJ2_indexOfCharUnsafe_4cfef, RJ2, cJ2_indexOfCharUnsafe_4cfef, 5, some .int, 0, 4)
theorem mkJ2_indexOfCharUnsafe_4cfef : zMok kJ2_indexOfCharUnsafe_4cfef := ⟨zTw_of (i := 2152) (by decide +kernel) rfl, zTw_of (i := 1015) (by decide +kernel) rfl, ⟨by decide +kernel, by decide +kernel, by decide +kernel⟩, by decide, (fun _ => zTw_of (i := 2151) (by decide +kernel) rfl), (fun h => (by cases h))⟩
def kJ2_indexOfSupplementary_4cfef : mM := (yJ2_indexOfSupplementary_4cfef, RJ2, cJ2_indexOfSupplementary_4cfef, 7, some .int, 0, 4)
theorem mkJ2_indexOfSupplementary_4cfef : zMok kJ2_indexOfSupplementary_4cfef := ⟨zTw_of (i := 2155) (by decide +kernel) rfl, zTw_of (i := 1015) (by decide +kernel) rfl, ⟨by decide +kernel, by decide +kernel, by decide +kernel⟩, by decide, (fun _ => zTw_of (i := 2154) (by decide +kernel) rfl), (fun h => (by cases h))⟩
def kJ11_isValidCodePoint_9a6ad : mM := (yJ11_isValidCodePoint_9a6ad, RJ11, cJ11_isValidCodePoint_9a6ad, 2, some .boolean, 0, 1)
theorem mkJ11_isValidCodePoint_9a6ad : zMok kJ11_isValidCodePoint_9a6ad := ⟨zTw_of (i := 2158) (by decide +kernel) rfl, zTw_of (i := 1017) (by decide +kernel) rfl, ⟨by decide +kernel, by decide +kernel, by decide +kernel⟩, by decide, (fun _ => zTw_of (i := 2157) (by decide +kernel) rfl), (fun h => (by cases h))⟩
def kJ11_highSurrogate_5068e : mM := (yJ11_highSurrogate_5068e, RJ11, cJ11_highSurrogate_5068e, 1, some .char, 0, 1)
theorem mkJ11_highSurrogate_5068e : zMok kJ11_highSurrogate_5068e := ⟨zTw_of (i := 2161) (by decide +kernel) rfl, zTw_of (i := 1017) (by decide +kernel) rfl, ⟨by decide +kernel, by decide +kernel, by decide +kernel⟩, by decide, (fun _ => zTw_of (i := 2160) (by decide +kernel) rfl), (fun h => (by cases h))⟩
def kJ11_lowSurrogate_5068e : mM := (yJ11_lowSurrogate_5068e, RJ11, cJ11_lowSurrogate_5068e, 1, some .char, 0, 1)
theorem mkJ11_lowSurrogate_5068e : zMok kJ11_lowSurrogate_5068e := ⟨zTw_of (i := 2165) (by decide +kernel) rfl, zTw_of (i := 1017) (by decide +kernel) rfl, ⟨by decide +kernel, by decide +kernel, by decide +kernel⟩, by decide, (fun _ => zTw_of (i := 2164) (by decide +kernel) rfl), (fun h => (by cases h))⟩
def kX8_clear : mM := (yX8_clear, RX8, cX8_clear, 1, none, 1, 0)
theorem mkX8_clear : zMok kX8_clear := ⟨zTw_of (i := 2170) (by decide +kernel) rfl, zTw_of (i := 1007) (by decide +kernel) rfl, ⟨by decide +kernel, by decide +kernel, by decide +kernel⟩, by decide, (fun h => (by cases h)), (fun _ => ⟨zTw_of (i := 2168) (by decide +kernel) rfl, zTw_of (i := 2169) (by decide +kernel) rfl⟩)⟩
def kX4_expect : mM := (yX4_expect, RX4, cX4_expect, 2, none, 1, 1)
theorem mkX4_expect : zMok kX4_expect := ⟨zTw_of (i := 2174) (by decide +kernel) rfl, zTw_of (i := 1005) (by decide +kernel) rfl, ⟨by decide +kernel, by decide +kernel, by decide +kernel⟩, by decide, (fun h => (by cases h)), (fun _ => ⟨zTw_of (i := 2173) (by decide +kernel) rfl, zTw_ofP (i := 4) (by decide +kernel) rfl⟩)⟩
def kX4_isNext : mM := (yX4_isNext, RX4, cX4_isNext, 2, some .boolean, 1, 1)
theorem mkX4_isNext : zMok kX4_isNext := ⟨zTw_of (i := 2178) (by decide +kernel) rfl, zTw_of (i := 1005) (by decide +kernel) rfl, ⟨by decide +kernel, by decide +kernel, by decide +kernel⟩, by decide, (fun h => (by cases h)), (fun _ => ⟨zTw_of (i := 2177) (by decide +kernel) rfl, zTw_ofP (i := 5) (by decide +kernel) rfl⟩)⟩
def kX9_sort : mM := (yX9_sort, RX9, cX9_sort, 1, some .int, 1, 0)
theorem mkX9_sort : zMok kX9_sort := ⟨zTw_of (i := 2182) (by decide +kernel) rfl, zTw_of (i := 1006) (by decide +kernel) rfl, ⟨by decide +kernel, by decide +kernel, by decide +kernel⟩, by decide, (fun h => (by cases h)), (fun _ => ⟨zTw_of (i := 2180) (by decide +kernel) rfl, zTw_of (i := 2181) (by decide +kernel) rfl⟩)⟩
def kX9_advance : mM := (yX9_advance, RX9, cX9_advance, 1, none, 1, 0)
theorem mkX9_advance : zMok kX9_advance := ⟨zTw_of (i := 2186) (by decide +kernel) rfl, zTw_of (i := 1006) (by decide +kernel) rfl, ⟨by decide +kernel, by decide +kernel, by decide +kernel⟩, by decide, (fun h => (by cases h)), (fun _ => ⟨zTw_of (i := 2184) (by decide +kernel) rfl, zTw_of (i := 2185) (by decide +kernel) rfl⟩)⟩
def kX4_fail : mM := (yX4_fail, RX4, cX4_fail, 1, none, 1, 0)
theorem mkX4_fail : zMok kX4_fail := ⟨zTw_of (i := 2190) (by decide +kernel) rfl, zTw_of (i := 1005) (by decide +kernel) rfl, ⟨by decide +kernel, by decide +kernel, by decide +kernel⟩, by decide, (fun h => (by cases h)), (fun _ => ⟨zTw_of (i := 2189) (by decide +kernel) rfl, zTw_ofP (i := 6) (by decide +kernel) rfl⟩)⟩
def kX9_place : mM := (yX9_place, RX9, cX9_place, 1, some .int, 1, 0)
theorem mkX9_place : zMok kX9_place := ⟨zTw_of (i := 2194) (by decide +kernel) rfl, zTw_of (i := 1006) (by decide +kernel) rfl, ⟨by decide +kernel, by decide +kernel, by decide +kernel⟩, by decide, (fun h => (by cases h)), (fun _ => ⟨zTw_of (i := 2192) (by decide +kernel) rfl, zTw_of (i := 2193) (by decide +kernel) rfl⟩)⟩
def kX4_readEither : mM := (yX4_readEither, RX4, cX4_readEither, 3, none, 1, 1)
theorem mkX4_readEither : zMok kX4_readEither := ⟨zTw_of (i := 2198) (by decide +kernel) rfl, zTw_of (i := 1005) (by decide +kernel) rfl, ⟨by decide +kernel, by decide +kernel, by decide +kernel⟩, by decide, (fun h => (by cases h)), (fun _ => ⟨zTw_of (i := 2197) (by decide +kernel) rfl, zTw_ofP (i := 7) (by decide +kernel) rfl⟩)⟩
def kX4_readBoth : mM := (yX4_readBoth, RX4, cX4_readBoth, 3, none, 1, 1)
theorem mkX4_readBoth : zMok kX4_readBoth := ⟨zTw_of (i := 2202) (by decide +kernel) rfl, zTw_of (i := 1005) (by decide +kernel) rfl, ⟨by decide +kernel, by decide +kernel, by decide +kernel⟩, by decide, (fun h => (by cases h)), (fun _ => ⟨zTw_of (i := 2201) (by decide +kernel) rfl, zTw_ofP (i := 8) (by decide +kernel) rfl⟩)⟩
def kX4_readTruth : mM := (yX4_readTruth, RX4, cX4_readTruth, 4, none, 1, 1)
theorem mkX4_readTruth : zMok kX4_readTruth := ⟨zTw_of (i := 2206) (by decide +kernel) rfl, zTw_of (i := 1005) (by decide +kernel) rfl, ⟨by decide +kernel, by decide +kernel, by decide +kernel⟩, by decide, (fun h => (by cases h)), (fun _ => ⟨zTw_of (i := 2205) (by decide +kernel) rfl, zTw_ofP (i := 9) (by decide +kernel) rfl⟩)⟩
def kX4_isOpened : mM := (yX4_isOpened, RX4, cX4_isOpened, 3, some .boolean, 1, 2)
theorem mkX4_isOpened : zMok kX4_isOpened := ⟨zTw_of (i := 2210) (by decide +kernel) rfl, zTw_of (i := 1005) (by decide +kernel) rfl, ⟨by decide +kernel, by decide +kernel, by decide +kernel⟩, by decide, (fun h => (by cases h)), (fun _ => ⟨zTw_of (i := 2209) (by decide +kernel) rfl, zTw_ofP (i := 10) (by decide +kernel) rfl⟩)⟩
def kX4_readCompared : mM := (yX4_readCompared, RX4, cX4_readCompared, 3, none, 1, 1)
theorem mkX4_readCompared : zMok kX4_readCompared := ⟨zTw_of (i := 2214) (by decide +kernel) rfl, zTw_of (i := 1005) (by decide +kernel) rfl, ⟨by decide +kernel, by decide +kernel, by decide +kernel⟩, by decide, (fun h => (by cases h)), (fun _ => ⟨zTw_of (i := 2213) (by decide +kernel) rfl, zTw_ofP (i := 11) (by decide +kernel) rfl⟩)⟩
def kX4_readSum : mM := (yX4_readSum, RX4, cX4_readSum, 4, none, 1, 1)
theorem mkX4_readSum : zMok kX4_readSum := ⟨zTw_of (i := 2218) (by decide +kernel) rfl, zTw_of (i := 1005) (by decide +kernel) rfl, ⟨by decide +kernel, by decide +kernel, by decide +kernel⟩, by decide, (fun h => (by cases h)), (fun _ => ⟨zTw_of (i := 2217) (by decide +kernel) rfl, zTw_ofP (i := 12) (by decide +kernel) rfl⟩)⟩
def kX4_readTerm : mM := (yX4_readTerm, RX4, cX4_readTerm, 3, none, 1, 1)
theorem mkX4_readTerm : zMok kX4_readTerm := ⟨zTw_of (i := 2222) (by decide +kernel) rfl, zTw_of (i := 1005) (by decide +kernel) rfl, ⟨by decide +kernel, by decide +kernel, by decide +kernel⟩, by decide, (fun h => (by cases h)), (fun _ => ⟨zTw_of (i := 2221) (by decide +kernel) rfl, zTw_ofP (i := 13) (by decide +kernel) rfl⟩)⟩
def kX4_readOne : mM := (yX4_readOne, RX4, cX4_readOne, 4, none, 1, 1)
theorem mkX4_readOne : zMok kX4_readOne := ⟨zTw_of (i := 2226) (by decide +kernel) rfl, zTw_of (i := 1005) (by decide +kernel) rfl, ⟨by decide +kernel, by decide +kernel, by decide +kernel⟩, by decide, (fun h => (by cases h)), (fun _ => ⟨zTw_of (i := 2225) (by decide +kernel) rfl, zTw_ofP (i := 14) (by decide +kernel) rfl⟩)⟩
def kX4_readSimple : mM := (yX4_readSimple, RX4, cX4_readSimple, 2, none, 1, 1)
theorem mkX4_readSimple : zMok kX4_readSimple := ⟨zTw_of (i := 2230) (by decide +kernel) rfl, zTw_of (i := 1005) (by decide +kernel) rfl, ⟨by decide +kernel, by decide +kernel, by decide +kernel⟩, by decide, (fun h => (by cases h)), (fun _ => ⟨zTw_of (i := 2229) (by decide +kernel) rfl, zTw_ofP (i := 15) (by decide +kernel) rfl⟩)⟩
def kX9_value : mM := (yX9_value, RX9, cX9_value, 1, some .int, 1, 0)
theorem mkX9_value : zMok kX9_value := ⟨zTw_of (i := 2234) (by decide +kernel) rfl, zTw_of (i := 1006) (by decide +kernel) rfl, ⟨by decide +kernel, by decide +kernel, by decide +kernel⟩, by decide, (fun h => (by cases h)), (fun _ => ⟨zTw_of (i := 2232) (by decide +kernel) rfl, zTw_of (i := 2233) (by decide +kernel) rfl⟩)⟩
def kX8_add : mM := (yX8_add, RX8, cX8_add, 2, none, 1, 1)
theorem mkX8_add : zMok kX8_add := ⟨zTw_of (i := 2238) (by decide +kernel) rfl, zTw_of (i := 1007) (by decide +kernel) rfl, ⟨by decide +kernel, by decide +kernel, by decide +kernel⟩, by decide, (fun h => (by cases h)), (fun _ => ⟨zTw_of (i := 2236) (by decide +kernel) rfl, zTw_of (i := 2237) (by decide +kernel) rfl⟩)⟩
def kX8_endPart : mM := (yX8_endPart, RX8, cX8_endPart, 2, none, 1, 1)
theorem mkX8_endPart : zMok kX8_endPart := ⟨zTw_of (i := 3002) (by decide +kernel) rfl, zTw_of (i := 1007) (by decide +kernel) rfl, ⟨by decide +kernel, by decide +kernel, by decide +kernel⟩, by decide, (fun h => (by cases h)), (fun _ => ⟨zTw_of (i := 3000) (by decide +kernel) rfl, zTw_of (i := 3001) (by decide +kernel) rfl⟩)⟩
def kX7_empty : mM := (yX7_empty, RX7, cX7_empty, 1, none, 1, 0)
theorem mkX7_empty : zMok kX7_empty := ⟨zTw_of (i := 3006) (by decide +kernel) rfl, zTw_of (i := 1004) (by decide +kernel) rfl, ⟨by decide +kernel, by decide +kernel, by decide +kernel⟩, by decide, (fun h => (by cases h)), (fun _ => ⟨zTw_of (i := 3004) (by decide +kernel) rfl, zTw_of (i := 3005) (by decide +kernel) rfl⟩)⟩
def kX4_draft : mM := (yX4_draft, RX4, cX4_draft, 1, some (.object "LaidByArgument$Text"), 1, 0)
theorem mkX4_draft : zMok kX4_draft := ⟨zTw_of (i := 3010) (by decide +kernel) rfl, zTw_of (i := 1005) (by decide +kernel) rfl, ⟨by decide +kernel, by decide +kernel, by decide +kernel⟩, by decide, (fun h => (by cases h)), (fun _ => ⟨zTw_of (i := 3008) (by decide +kernel) rfl, zTw_of (i := 3009) (by decide +kernel) rfl⟩)⟩
def kX8_become : mM := (yX8_become, RX8, cX8_become, 2, none, 1, 1)
theorem mkX8_become : zMok kX8_become := ⟨zTw_of (i := 3014) (by decide +kernel) rfl, zTw_of (i := 1007) (by decide +kernel) rfl, ⟨by decide +kernel, by decide +kernel, by decide +kernel⟩, by decide, (fun h => (by cases h)), (fun _ => ⟨zTw_of (i := 3012) (by decide +kernel) rfl, zTw_of (i := 3013) (by decide +kernel) rfl⟩)⟩
def kX10_against : mM := (yX10_against, RX10, cX10_against, 5, some .int, 1, 3)
theorem mkX10_against : zMok kX10_against := ⟨zTw_of (i := 3065) (by decide +kernel) rfl, zTw_of (i := 1001) (by decide +kernel) rfl, ⟨by decide +kernel, by decide +kernel, by decide +kernel⟩, by decide, (fun h => (by cases h)), (fun _ => ⟨zTw_of (i := 3063) (by decide +kernel) rfl, zTw_of (i := 3064) (by decide +kernel) rfl⟩)⟩
def kX10_isArgument : mM := (yX10_isArgument, RX10, cX10_isArgument, 1, some .boolean, 0, 1)
theorem mkX10_isArgument : zMok kX10_isArgument := ⟨zTw_of (i := 3068) (by decide +kernel) rfl, zTw_of (i := 1001) (by decide +kernel) rfl, ⟨by decide +kernel, by decide +kernel, by decide +kernel⟩, by decide, (fun _ => zTw_of (i := 3067) (by decide +kernel) rfl), (fun h => (by cases h))⟩
def kX10_isFrom0To : mM := (yX10_isFrom0To, RX10, cX10_isFrom0To, 2, some .boolean, 0, 2)
theorem mkX10_isFrom0To : zMok kX10_isFrom0To := ⟨zTw_of (i := 3071) (by decide +kernel) rfl, zTw_of (i := 1001) (by decide +kernel) rfl, ⟨by decide +kernel, by decide +kernel, by decide +kernel⟩, by decide, (fun _ => zTw_of (i := 3070) (by decide +kernel) rfl), (fun h => (by cases h))⟩
def kX6_struckBy : mM := (yX6_struckBy, RX6, cX6_struckBy, 2, some .int, 1, 1)
theorem mkX6_struckBy : zMok kX6_struckBy := ⟨zTw_of (i := 3075) (by decide +kernel) rfl, zTw_of (i := 1002) (by decide +kernel) rfl, ⟨by decide +kernel, by decide +kernel, by decide +kernel⟩, by decide, (fun h => (by cases h)), (fun _ => ⟨zTw_of (i := 3073) (by decide +kernel) rfl, zTw_of (i := 3074) (by decide +kernel) rfl⟩)⟩
def kX10_has : mM := (yX10_has, RX10, cX10_has, 2, some .boolean, 0, 2)
theorem mkX10_has : zMok kX10_has := ⟨zTw_of (i := 3078) (by decide +kernel) rfl, zTw_of (i := 1001) (by decide +kernel) rfl, ⟨by decide +kernel, by decide +kernel, by decide +kernel⟩, by decide, (fun _ => zTw_of (i := 3077) (by decide +kernel) rfl), (fun h => (by cases h))⟩
def kX6_change : mM := (yX6_change, RX6, cX6_change, 4, none, 1, 3)
theorem mkX6_change : zMok kX6_change := ⟨zTw_of (i := 3082) (by decide +kernel) rfl, zTw_of (i := 1002) (by decide +kernel) rfl, ⟨by decide +kernel, by decide +kernel, by decide +kernel⟩, by decide, (fun h => (by cases h)), (fun _ => ⟨zTw_of (i := 3080) (by decide +kernel) rfl, zTw_of (i := 3081) (by decide +kernel) rfl⟩)⟩
def kX10_set : mM := (yX10_set, RX10, cX10_set, 6, some .int, 1, 3)
theorem mkX10_set : zMok kX10_set := ⟨zTw_of (i := 3087) (by decide +kernel) rfl, zTw_of (i := 1001) (by decide +kernel) rfl, ⟨by decide +kernel, by decide +kernel, by decide +kernel⟩, by decide, (fun h => (by cases h)), (fun _ => ⟨zTw_of (i := 3085) (by decide +kernel) rfl, zTw_of (i := 3086) (by decide +kernel) rfl⟩)⟩
def kX10_mostOf : mM := (yX10_mostOf, RX10, cX10_mostOf, 1, some .int, 0, 1)
theorem mkX10_mostOf : zMok kX10_mostOf := ⟨zTw_of (i := 3090) (by decide +kernel) rfl, zTw_of (i := 1001) (by decide +kernel) rfl, ⟨by decide +kernel, by decide +kernel, by decide +kernel⟩, by decide, (fun _ => zTw_of (i := 3089) (by decide +kernel) rfl), (fun h => (by cases h))⟩
def kX10_told : mM := (yX10_told, RX10, cX10_told, 4, some .int, 1, 2)
theorem mkX10_told : zMok kX10_told := ⟨zTw_of (i := 3094) (by decide +kernel) rfl, zTw_of (i := 1001) (by decide +kernel) rfl, ⟨by decide +kernel, by decide +kernel, by decide +kernel⟩, by decide, (fun h => (by cases h)), (fun _ => ⟨zTw_of (i := 3092) (by decide +kernel) rfl, zTw_of (i := 3093) (by decide +kernel) rfl⟩)⟩
def kX10_toldOfArgument : mM := (yX10_toldOfArgument, RX10, cX10_toldOfArgument, 3, some .int, 1, 2)
theorem mkX10_toldOfArgument : zMok kX10_toldOfArgument := ⟨zTw_of (i := 3098) (by decide +kernel) rfl, zTw_of (i := 1001) (by decide +kernel) rfl, ⟨by decide +kernel, by decide +kernel, by decide +kernel⟩, by decide, (fun h => (by cases h)), (fun _ => ⟨zTw_of (i := 3097) (by decide +kernel) rfl, zTw_ofP (i := 16) (by decide +kernel) rfl⟩)⟩
def kX6_strikersOf : mM := (yX6_strikersOf, RX6, cX6_strikersOf, 2, some .int, 1, 1)
theorem mkX6_strikersOf : zMok kX6_strikersOf := ⟨zTw_of (i := 3102) (by decide +kernel) rfl, zTw_of (i := 1002) (by decide +kernel) rfl, ⟨by decide +kernel, by decide +kernel, by decide +kernel⟩, by decide, (fun h => (by cases h)), (fun _ => ⟨zTw_of (i := 3100) (by decide +kernel) rfl, zTw_of (i := 3101) (by decide +kernel) rfl⟩)⟩
def kX10_henAt : mM := (yX10_henAt, RX10, cX10_henAt, 2, some (.object "LaidByArgument$Hen"), 1, 1)
theorem mkX10_henAt : zMok kX10_henAt := ⟨zTw_of (i := 3106) (by decide +kernel) rfl, zTw_of (i := 1001) (by decide +kernel) rfl, ⟨by decide +kernel, by decide +kernel, by decide +kernel⟩, by decide, (fun h => (by cases h)), (fun _ => ⟨zTw_of (i := 3105) (by decide +kernel) rfl, zTw_ofP (i := 17) (by decide +kernel) rfl⟩)⟩
def kX10_rule : mM := (yX10_rule, RX10, cX10_rule, 1, some (.object "LaidByArgument$Text"), 1, 0)
theorem mkX10_rule : zMok kX10_rule := ⟨zTw_of (i := 3110) (by decide +kernel) rfl, zTw_of (i := 1001) (by decide +kernel) rfl, ⟨by decide +kernel, by decide +kernel, by decide +kernel⟩, by decide, (fun h => (by cases h)), (fun _ => ⟨zTw_of (i := 3109) (by decide +kernel) rfl, zTw_ofP (i := 18) (by decide +kernel) rfl⟩)⟩
def kX2_droppedBy : mM := (yX2_droppedBy, RX2, cX2_droppedBy, 6, some .int, 1, 3)
theorem mkX2_droppedBy : zMok kX2_droppedBy := ⟨zTw_of (i := 3114) (by decide +kernel) rfl, zTw_of (i := 1003) (by decide +kernel) rfl, ⟨by decide +kernel, by decide +kernel, by decide +kernel⟩, by decide, (fun h => (by cases h)), (fun _ => ⟨zTw_of (i := 3112) (by decide +kernel) rfl, zTw_of (i := 3113) (by decide +kernel) rfl⟩)⟩
def kX2_isDropping : mM := (yX2_isDropping, RX2, cX2_isDropping, 5, some .boolean, 1, 4)
theorem mkX2_isDropping : zMok kX2_isDropping := ⟨zTw_of (i := 3119) (by decide +kernel) rfl, zTw_of (i := 1003) (by decide +kernel) rfl, ⟨by decide +kernel, by decide +kernel, by decide +kernel⟩, by decide, (fun h => (by cases h)), (fun _ => ⟨zTw_of (i := 3117) (by decide +kernel) rfl, zTw_of (i := 3118) (by decide +kernel) rfl⟩)⟩
def kX2_toldBy : mM := (yX2_toldBy, RX2, cX2_toldBy, 6, some .int, 1, 5)
theorem mkX2_toldBy : zMok kX2_toldBy := ⟨zTw_of (i := 3123) (by decide +kernel) rfl, zTw_of (i := 1003) (by decide +kernel) rfl, ⟨by decide +kernel, by decide +kernel, by decide +kernel⟩, by decide, (fun h => (by cases h)), (fun _ => ⟨zTw_of (i := 3122) (by decide +kernel) rfl, zTw_ofP (i := 19) (by decide +kernel) rfl⟩)⟩
def kX2_objectors : mM := (yX2_objectors, RX2, cX2_objectors, 3, some .int, 1, 2)
theorem mkX2_objectors : zMok kX2_objectors := ⟨zTw_of (i := 3127) (by decide +kernel) rfl, zTw_of (i := 1003) (by decide +kernel) rfl, ⟨by decide +kernel, by decide +kernel, by decide +kernel⟩, by decide, (fun h => (by cases h)), (fun _ => ⟨zTw_of (i := 3125) (by decide +kernel) rfl, zTw_of (i := 3126) (by decide +kernel) rfl⟩)⟩
def kJ6_bitCount_0f7a4 : mM := (yJ6_bitCount_0f7a4, RJ6, cJ6_bitCount_0f7a4, 1, some .int, 0, 1)
theorem mkJ6_bitCount_0f7a4 : zMok kJ6_bitCount_0f7a4 := ⟨zTw_of (i := 3131) (by decide +kernel) rfl, zTw_of (i := 1020) (by decide +kernel) rfl, ⟨by decide +kernel, by decide +kernel, by decide +kernel⟩, by decide, (fun _ => zTw_of (i := 3130) (by decide +kernel) rfl), (fun h => (by cases h))⟩
def kX8_worth : mM := (yX8_worth, RX8, cX8_worth, 8, some .int, 1, 3)
theorem mkX8_worth : zMok kX8_worth := ⟨zTw_of (i := 3138) (by decide +kernel) rfl, zTw_of (i := 1007) (by decide +kernel) rfl, ⟨by decide +kernel, by decide +kernel, by decide +kernel⟩, by decide, (fun h => (by cases h)), (fun _ => ⟨zTw_of (i := 3136) (by decide +kernel) rfl, zTw_of (i := 3137) (by decide +kernel) rfl⟩)⟩
def kX8_isValue : mM := (yX8_isValue, RX8, cX8_isValue, 1, some .boolean, 0, 1)
theorem mkX8_isValue : zMok kX8_isValue := ⟨zTw_of (i := 3141) (by decide +kernel) rfl, zTw_of (i := 1007) (by decide +kernel) rfl, ⟨by decide +kernel, by decide +kernel, by decide +kernel⟩, by decide, (fun _ => zTw_of (i := 3140) (by decide +kernel) rfl), (fun h => (by cases h))⟩
def kX8_valueOf : mM := (yX8_valueOf, RX8, cX8_valueOf, 2, some .int, 0, 2)
theorem mkX8_valueOf : zMok kX8_valueOf := ⟨zTw_of (i := 3144) (by decide +kernel) rfl, zTw_of (i := 1007) (by decide +kernel) rfl, ⟨by decide +kernel, by decide +kernel, by decide +kernel⟩, by decide, (fun _ => zTw_of (i := 3143) (by decide +kernel) rfl), (fun h => (by cases h))⟩
def kX8_ofOne : mM := (yX8_ofOne, RX8, cX8_ofOne, 2, some .int, 0, 2)
theorem mkX8_ofOne : zMok kX8_ofOne := ⟨zTw_of (i := 3147) (by decide +kernel) rfl, zTw_of (i := 1007) (by decide +kernel) rfl, ⟨by decide +kernel, by decide +kernel, by decide +kernel⟩, by decide, (fun _ => zTw_of (i := 3146) (by decide +kernel) rfl), (fun h => (by cases h))⟩
def kX8_ofTwo : mM := (yX8_ofTwo, RX8, cX8_ofTwo, 3, some .int, 0, 3)
theorem mkX8_ofTwo : zMok kX8_ofTwo := ⟨zTw_of (i := 3150) (by decide +kernel) rfl, zTw_of (i := 1007) (by decide +kernel) rfl, ⟨by decide +kernel, by decide +kernel, by decide +kernel⟩, by decide, (fun _ => zTw_of (i := 3149) (by decide +kernel) rfl), (fun h => (by cases h))⟩
def kX10_hen : mM := (yX10_hen, RX10, cX10_hen, 3, some .int, 1, 2)
theorem mkX10_hen : zMok kX10_hen := ⟨zTw_of (i := 3154) (by decide +kernel) rfl, zTw_of (i := 1001) (by decide +kernel) rfl, ⟨by decide +kernel, by decide +kernel, by decide +kernel⟩, by decide, (fun h => (by cases h)), (fun _ => ⟨zTw_of (i := 3152) (by decide +kernel) rfl, zTw_of (i := 3153) (by decide +kernel) rfl⟩)⟩
def kX10_isKind : mM := (yX10_isKind, RX10, cX10_isKind, 1, some .boolean, 0, 1)
theorem mkX10_isKind : zMok kX10_isKind := ⟨zTw_of (i := 3157) (by decide +kernel) rfl, zTw_of (i := 1001) (by decide +kernel) rfl, ⟨by decide +kernel, by decide +kernel, by decide +kernel⟩, by decide, (fun _ => zTw_of (i := 3156) (by decide +kernel) rfl), (fun h => (by cases h))⟩
def kX0_come : mM := (yX0_come, RX0, cX0_come, 3, none, 1, 2)
theorem mkX0_come : zMok kX0_come := ⟨zTw_of (i := 3161) (by decide +kernel) rfl, zTw_of (i := 1009) (by decide +kernel) rfl, ⟨by decide +kernel, by decide +kernel, by decide +kernel⟩, by decide, (fun h => (by cases h)), (fun _ => ⟨zTw_of (i := 3159) (by decide +kernel) rfl, zTw_of (i := 3160) (by decide +kernel) rfl⟩)⟩
def kX10_asks : mM := (yX10_asks, RX10, cX10_asks, 5, some .int, 1, 3)
theorem mkX10_asks : zMok kX10_asks := ⟨zTw_of (i := 3166) (by decide +kernel) rfl, zTw_of (i := 1001) (by decide +kernel) rfl, ⟨by decide +kernel, by decide +kernel, by decide +kernel⟩, by decide, (fun h => (by cases h)), (fun _ => ⟨zTw_of (i := 3164) (by decide +kernel) rfl, zTw_of (i := 3165) (by decide +kernel) rfl⟩)⟩
def kX2_laidBy : mM := (yX2_laidBy, RX2, cX2_laidBy, 8, some .int, 1, 4)
theorem mkX2_laidBy : zMok kX2_laidBy := ⟨zTw_of (i := 3171) (by decide +kernel) rfl, zTw_of (i := 1003) (by decide +kernel) rfl, ⟨by decide +kernel, by decide +kernel, by decide +kernel⟩, by decide, (fun h => (by cases h)), (fun _ => ⟨zTw_of (i := 3169) (by decide +kernel) rfl, zTw_of (i := 3170) (by decide +kernel) rfl⟩)⟩
def kX2_bounded : mM := (yX2_bounded, RX2, cX2_bounded, 1, some .int, 0, 1)
theorem mkX2_bounded : zMok kX2_bounded := ⟨zTw_of (i := 3174) (by decide +kernel) rfl, zTw_of (i := 1003) (by decide +kernel) rfl, ⟨by decide +kernel, by decide +kernel, by decide +kernel⟩, by decide, (fun _ => zTw_of (i := 3173) (by decide +kernel) rfl), (fun h => (by cases h))⟩
def kX2_isYielding : mM := (yX2_isYielding, RX2, cX2_isYielding, 7, some .boolean, 1, 4)
theorem mkX2_isYielding : zMok kX2_isYielding := ⟨zTw_of (i := 3180) (by decide +kernel) rfl, zTw_of (i := 1003) (by decide +kernel) rfl, ⟨by decide +kernel, by decide +kernel, by decide +kernel⟩, by decide, (fun h => (by cases h)), (fun _ => ⟨zTw_of (i := 3178) (by decide +kernel) rfl, zTw_of (i := 3179) (by decide +kernel) rfl⟩)⟩
def kX10_feed : mM := (yX10_feed, RX10, cX10_feed, 2, some .int, 1, 1)
theorem mkX10_feed : zMok kX10_feed := ⟨zTw_of (i := 3185) (by decide +kernel) rfl, zTw_of (i := 1001) (by decide +kernel) rfl, ⟨by decide +kernel, by decide +kernel, by decide +kernel⟩, by decide, (fun h => (by cases h)), (fun _ => ⟨zTw_of (i := 3183) (by decide +kernel) rfl, zTw_of (i := 3184) (by decide +kernel) rfl⟩)⟩
def kX10_force : mM := (yX10_force, RX10, cX10_force, 3, some .int, 1, 1)
theorem mkX10_force : zMok kX10_force := ⟨zTw_of (i := 3191) (by decide +kernel) rfl, zTw_of (i := 1001) (by decide +kernel) rfl, ⟨by decide +kernel, by decide +kernel, by decide +kernel⟩, by decide, (fun h => (by cases h)), (fun _ => ⟨zTw_of (i := 3189) (by decide +kernel) rfl, zTw_of (i := 3190) (by decide +kernel) rfl⟩)⟩
def kX10_argue : mM := (yX10_argue, RX10, cX10_argue, 4, some .int, 1, 2)
theorem mkX10_argue : zMok kX10_argue := ⟨zTw_of (i := 3195) (by decide +kernel) rfl, zTw_of (i := 1001) (by decide +kernel) rfl, ⟨by decide +kernel, by decide +kernel, by decide +kernel⟩, by decide, (fun h => (by cases h)), (fun _ => ⟨zTw_of (i := 3193) (by decide +kernel) rfl, zTw_of (i := 3194) (by decide +kernel) rfl⟩)⟩
def kX2_put : mM := (yX2_put, RX2, cX2_put, 7, some .int, 1, 4)
theorem mkX2_put : zMok kX2_put := ⟨zTw_of (i := 3199) (by decide +kernel) rfl, zTw_of (i := 1003) (by decide +kernel) rfl, ⟨by decide +kernel, by decide +kernel, by decide +kernel⟩, by decide, (fun h => (by cases h)), (fun _ => ⟨zTw_of (i := 3197) (by decide +kernel) rfl, zTw_of (i := 3198) (by decide +kernel) rfl⟩)⟩
def kX10_night : mM := (yX10_night, RX10, cX10_night, 3, some .int, 1, 0)
theorem mkX10_night : zMok kX10_night := ⟨zTw_of (i := 3206) (by decide +kernel) rfl, zTw_of (i := 1001) (by decide +kernel) rfl, ⟨by decide +kernel, by decide +kernel, by decide +kernel⟩, by decide, (fun h => (by cases h)), (fun _ => ⟨zTw_of (i := 3204) (by decide +kernel) rfl, zTw_of (i := 3205) (by decide +kernel) rfl⟩)⟩
def kX2_sleep : mM := (yX2_sleep, RX2, cX2_sleep, 4, none, 1, 3)
theorem mkX2_sleep : zMok kX2_sleep := ⟨zTw_of (i := 3210) (by decide +kernel) rfl, zTw_of (i := 1003) (by decide +kernel) rfl, ⟨by decide +kernel, by decide +kernel, by decide +kernel⟩, by decide, (fun h => (by cases h)), (fun _ => ⟨zTw_of (i := 3208) (by decide +kernel) rfl, zTw_of (i := 3209) (by decide +kernel) rfl⟩)⟩
def kX10_morning : mM := (yX10_morning, RX10, cX10_morning, 7, some .int, 1, 3)
theorem mkX10_morning : zMok kX10_morning := ⟨zTw_of (i := 3216) (by decide +kernel) rfl, zTw_of (i := 1001) (by decide +kernel) rfl, ⟨by decide +kernel, by decide +kernel, by decide +kernel⟩, by decide, (fun h => (by cases h)), (fun _ => ⟨zTw_of (i := 3214) (by decide +kernel) rfl, zTw_of (i := 3215) (by decide +kernel) rfl⟩)⟩
def kX10_sheetAt : mM := (yX10_sheetAt, RX10, cX10_sheetAt, 2, some (.object "LaidByArgument$Sheet"), 1, 1)
theorem mkX10_sheetAt : zMok kX10_sheetAt := ⟨zTw_of (i := 3220) (by decide +kernel) rfl, zTw_of (i := 1001) (by decide +kernel) rfl, ⟨by decide +kernel, by decide +kernel, by decide +kernel⟩, by decide, (fun h => (by cases h)), (fun _ => ⟨zTw_of (i := 3219) (by decide +kernel) rfl, zTw_ofP (i := 20) (by decide +kernel) rfl⟩)⟩
def kX10_refusalOfMorning : mM := (yX10_refusalOfMorning, RX10, cX10_refusalOfMorning, 2, some .int, 0, 1)
theorem mkX10_refusalOfMorning : zMok kX10_refusalOfMorning := ⟨zTw_of (i := 3223) (by decide +kernel) rfl, zTw_of (i := 1001) (by decide +kernel) rfl, ⟨by decide +kernel, by decide +kernel, by decide +kernel⟩, by decide, (fun _ => zTw_of (i := 3222) (by decide +kernel) rfl), (fun h => (by cases h))⟩
def kX5_isMissing : mM := (yX5_isMissing, RX5, cX5_isMissing, 1, some .boolean, 1, 0)
theorem mkX5_isMissing : zMok kX5_isMissing := ⟨zTw_of (i := 3227) (by decide +kernel) rfl, zTw_of (i := 1011) (by decide +kernel) rfl, ⟨by decide +kernel, by decide +kernel, by decide +kernel⟩, by decide, (fun h => (by cases h)), (fun _ => ⟨zTw_of (i := 3225) (by decide +kernel) rfl, zTw_of (i := 3226) (by decide +kernel) rfl⟩)⟩
def kX5_size : mM := (yX5_size, RX5, cX5_size, 1, some .int, 1, 0)
theorem mkX5_size : zMok kX5_size := ⟨zTw_of (i := 3231) (by decide +kernel) rfl, zTw_of (i := 1011) (by decide +kernel) rfl, ⟨by decide +kernel, by decide +kernel, by decide +kernel⟩, by decide, (fun h => (by cases h)), (fun _ => ⟨zTw_of (i := 3229) (by decide +kernel) rfl, zTw_of (i := 3230) (by decide +kernel) rfl⟩)⟩
def kX5_item : mM := (yX5_item, RX5, cX5_item, 2, some .int, 1, 1)
theorem mkX5_item : zMok kX5_item := ⟨zTw_of (i := 3235) (by decide +kernel) rfl, zTw_of (i := 1011) (by decide +kernel) rfl, ⟨by decide +kernel, by decide +kernel, by decide +kernel⟩, by decide, (fun h => (by cases h)), (fun _ => ⟨zTw_of (i := 3233) (by decide +kernel) rfl, zTw_of (i := 3234) (by decide +kernel) rfl⟩)⟩
def kX5_hasItems : mM := (yX5_hasItems, RX5, cX5_hasItems, 3, some .boolean, 1, 2)
theorem mkX5_hasItems : zMok kX5_hasItems := ⟨zTw_of (i := 3239) (by decide +kernel) rfl, zTw_of (i := 1011) (by decide +kernel) rfl, ⟨by decide +kernel, by decide +kernel, by decide +kernel⟩, by decide, (fun h => (by cases h)), (fun _ => ⟨zTw_of (i := 3237) (by decide +kernel) rfl, zTw_of (i := 3238) (by decide +kernel) rfl⟩)⟩
def kX0_become : mM := (yX0_become, RX0, cX0_become, 2, none, 1, 1)
theorem mkX0_become : zMok kX0_become := ⟨zTw_of (i := 4003) (by decide +kernel) rfl, zTw_of (i := 1009) (by decide +kernel) rfl, ⟨by decide +kernel, by decide +kernel, by decide +kernel⟩, by decide, (fun h => (by cases h)), (fun _ => ⟨zTw_of (i := 4001) (by decide +kernel) rfl, zTw_of (i := 4002) (by decide +kernel) rfl⟩)⟩
def kX10_yieldsOnMorning : mM := (yX10_yieldsOnMorning, RX10, cX10_yieldsOnMorning, 4, some .int, 1, 1)
theorem mkX10_yieldsOnMorning : zMok kX10_yieldsOnMorning := ⟨zTw_of (i := 4007) (by decide +kernel) rfl, zTw_of (i := 1001) (by decide +kernel) rfl, ⟨by decide +kernel, by decide +kernel, by decide +kernel⟩, by decide, (fun h => (by cases h)), (fun _ => ⟨zTw_of (i := 4006) (by decide +kernel) rfl, zTw_ofP (i := 21) (by decide +kernel) rfl⟩)⟩
def kX10_onMorning : mM := (yX10_onMorning, RX10, cX10_onMorning, 7, some .int, 1, 2)
theorem mkX10_onMorning : zMok kX10_onMorning := ⟨zTw_of (i := 4011) (by decide +kernel) rfl, zTw_of (i := 1001) (by decide +kernel) rfl, ⟨by decide +kernel, by decide +kernel, by decide +kernel⟩, by decide, (fun h => (by cases h)), (fun _ => ⟨zTw_of (i := 4010) (by decide +kernel) rfl, zTw_ofP (i := 22) (by decide +kernel) rfl⟩)⟩
def kX10_teach : mM := (yX10_teach, RX10, cX10_teach, 8, some .int, 1, 2)
theorem mkX10_teach : zMok kX10_teach := ⟨zTw_of (i := 4015) (by decide +kernel) rfl, zTw_of (i := 1001) (by decide +kernel) rfl, ⟨by decide +kernel, by decide +kernel, by decide +kernel⟩, by decide, (fun h => (by cases h)), (fun _ => ⟨zTw_of (i := 4013) (by decide +kernel) rfl, zTw_of (i := 4014) (by decide +kernel) rfl⟩)⟩
def kX10_nights : mM := (yX10_nights, RX10, cX10_nights, 8, some .int, 1, 4)
theorem mkX10_nights : zMok kX10_nights := ⟨zTw_of (i := 4019) (by decide +kernel) rfl, zTw_of (i := 1001) (by decide +kernel) rfl, ⟨by decide +kernel, by decide +kernel, by decide +kernel⟩, by decide, (fun h => (by cases h)), (fun _ => ⟨zTw_of (i := 4017) (by decide +kernel) rfl, zTw_of (i := 4018) (by decide +kernel) rfl⟩)⟩
def kX10_field : mM := (yX10_field, RX10, cX10_field, 2, some .int, 1, 1)
theorem mkX10_field : zMok kX10_field := ⟨zTw_of (i := 4023) (by decide +kernel) rfl, zTw_of (i := 1001) (by decide +kernel) rfl, ⟨by decide +kernel, by decide +kernel, by decide +kernel⟩, by decide, (fun h => (by cases h)), (fun _ => ⟨zTw_of (i := 4021) (by decide +kernel) rfl, zTw_of (i := 4022) (by decide +kernel) rfl⟩)⟩
def kX6_standing : mM := (yX6_standing, RX6, cX6_standing, 3, some .int, 1, 0)
theorem mkX6_standing : zMok kX6_standing := ⟨zTw_of (i := 4027) (by decide +kernel) rfl, zTw_of (i := 1002) (by decide +kernel) rfl, ⟨by decide +kernel, by decide +kernel, by decide +kernel⟩, by decide, (fun h => (by cases h)), (fun _ => ⟨zTw_of (i := 4025) (by decide +kernel) rfl, zTw_of (i := 4026) (by decide +kernel) rfl⟩)⟩
def kX6_defendedBy : mM := (yX6_defendedBy, RX6, cX6_defendedBy, 5, some .int, 1, 1)
theorem mkX6_defendedBy : zMok kX6_defendedBy := ⟨zTw_of (i := 4031) (by decide +kernel) rfl, zTw_of (i := 1002) (by decide +kernel) rfl, ⟨by decide +kernel, by decide +kernel, by decide +kernel⟩, by decide, (fun h => (by cases h)), (fun _ => ⟨zTw_of (i := 4029) (by decide +kernel) rfl, zTw_of (i := 4030) (by decide +kernel) rfl⟩)⟩
def kX6_struckByAll : mM := (yX6_struckByAll, RX6, cX6_struckByAll, 4, some .int, 1, 1)
theorem mkX6_struckByAll : zMok kX6_struckByAll := ⟨zTw_of (i := 4035) (by decide +kernel) rfl, zTw_of (i := 1002) (by decide +kernel) rfl, ⟨by decide +kernel, by decide +kernel, by decide +kernel⟩, by decide, (fun h => (by cases h)), (fun _ => ⟨zTw_of (i := 4033) (by decide +kernel) rfl, zTw_of (i := 4034) (by decide +kernel) rfl⟩)⟩
def kX6_freeSets : mM := (yX6_freeSets, RX6, cX6_freeSets, 3, some .int, 1, 0)
theorem mkX6_freeSets : zMok kX6_freeSets := ⟨zTw_of (i := 4041) (by decide +kernel) rfl, zTw_of (i := 1002) (by decide +kernel) rfl, ⟨by decide +kernel, by decide +kernel, by decide +kernel⟩, by decide, (fun h => (by cases h)), (fun _ => ⟨zTw_of (i := 4039) (by decide +kernel) rfl, zTw_of (i := 4040) (by decide +kernel) rfl⟩)⟩
def kX6_isFree : mM := (yX6_isFree, RX6, cX6_isFree, 2, some .boolean, 1, 1)
theorem mkX6_isFree : zMok kX6_isFree := ⟨zTw_of (i := 4045) (by decide +kernel) rfl, zTw_of (i := 1002) (by decide +kernel) rfl, ⟨by decide +kernel, by decide +kernel, by decide +kernel⟩, by decide, (fun h => (by cases h)), (fun _ => ⟨zTw_of (i := 4043) (by decide +kernel) rfl, zTw_of (i := 4044) (by decide +kernel) rfl⟩)⟩
def kX6_stableSets : mM := (yX6_stableSets, RX6, cX6_stableSets, 3, some .int, 1, 0)
theorem mkX6_stableSets : zMok kX6_stableSets := ⟨zTw_of (i := 4049) (by decide +kernel) rfl, zTw_of (i := 1002) (by decide +kernel) rfl, ⟨by decide +kernel, by decide +kernel, by decide +kernel⟩, by decide, (fun h => (by cases h)), (fun _ => ⟨zTw_of (i := 4047) (by decide +kernel) rfl, zTw_of (i := 4048) (by decide +kernel) rfl⟩)⟩
def kX6_isStable : mM := (yX6_isStable, RX6, cX6_isStable, 2, some .boolean, 1, 1)
theorem mkX6_isStable : zMok kX6_isStable := ⟨zTw_of (i := 4053) (by decide +kernel) rfl, zTw_of (i := 1002) (by decide +kernel) rfl, ⟨by decide +kernel, by decide +kernel, by decide +kernel⟩, by decide, (fun h => (by cases h)), (fun _ => ⟨zTw_of (i := 4051) (by decide +kernel) rfl, zTw_of (i := 4052) (by decide +kernel) rfl⟩)⟩
def kX6_leastStable : mM := (yX6_leastStable, RX6, cX6_leastStable, 2, some .int, 1, 0)
theorem mkX6_leastStable : zMok kX6_leastStable := ⟨zTw_of (i := 4057) (by decide +kernel) rfl, zTw_of (i := 1002) (by decide +kernel) rfl, ⟨by decide +kernel, by decide +kernel, by decide +kernel⟩, by decide, (fun h => (by cases h)), (fun _ => ⟨zTw_of (i := 4055) (by decide +kernel) rfl, zTw_of (i := 4056) (by decide +kernel) rfl⟩)⟩
def kX6_vain : mM := (yX6_vain, RX6, cX6_vain, 5, some .int, 1, 0)
theorem mkX6_vain : zMok kX6_vain := ⟨zTw_of (i := 4061) (by decide +kernel) rfl, zTw_of (i := 1002) (by decide +kernel) rfl, ⟨by decide +kernel, by decide +kernel, by decide +kernel⟩, by decide, (fun h => (by cases h)), (fun _ => ⟨zTw_of (i := 4059) (by decide +kernel) rfl, zTw_of (i := 4060) (by decide +kernel) rfl⟩)⟩
def kX10_sets : mM := (yX10_sets, RX10, cX10_sets, 3, some .int, 1, 2)
theorem mkX10_sets : zMok kX10_sets := ⟨zTw_of (i := 4067) (by decide +kernel) rfl, zTw_of (i := 1001) (by decide +kernel) rfl, ⟨by decide +kernel, by decide +kernel, by decide +kernel⟩, by decide, (fun h => (by cases h)), (fun _ => ⟨zTw_of (i := 4065) (by decide +kernel) rfl, zTw_of (i := 4066) (by decide +kernel) rfl⟩)⟩
def kX10_share : mM := (yX10_share, RX10, cX10_share, 2, some .long, 1, 1)
theorem mkX10_share : zMok kX10_share := ⟨zTw_of (i := 4074) (by decide +kernel) rfl, zTw_of (i := 1001) (by decide +kernel) rfl, ⟨by decide +kernel, by decide +kernel, by decide +kernel⟩, by decide, (fun h => (by cases h)), (fun _ => ⟨zTw_of (i := 4072) (by decide +kernel) rfl, zTw_of (i := 4073) (by decide +kernel) rfl⟩)⟩
def kX10_partOfLowest : mM := (yX10_partOfLowest, RX10, cX10_partOfLowest, 7, some .int, 0, 3)
theorem mkX10_partOfLowest : zMok kX10_partOfLowest := ⟨zTw_of (i := 4078) (by decide +kernel) rfl, zTw_of (i := 1001) (by decide +kernel) rfl, ⟨by decide +kernel, by decide +kernel, by decide +kernel⟩, by decide, (fun _ => zTw_of (i := 4077) (by decide +kernel) rfl), (fun h => (by cases h))⟩
def kX10_best : mM := (yX10_best, RX10, cX10_best, 4, some .int, 1, 2)
theorem mkX10_best : zMok kX10_best := ⟨zTw_of (i := 4083) (by decide +kernel) rfl, zTw_of (i := 1001) (by decide +kernel) rfl, ⟨by decide +kernel, by decide +kernel, by decide +kernel⟩, by decide, (fun h => (by cases h)), (fun _ => ⟨zTw_of (i := 4081) (by decide +kernel) rfl, zTw_of (i := 4082) (by decide +kernel) rfl⟩)⟩
def kX10_bestPoint : mM := (yX10_bestPoint, RX10, cX10_bestPoint, 6, some .int, 1, 1)
theorem mkX10_bestPoint : zMok kX10_bestPoint := ⟨zTw_of (i := 4087) (by decide +kernel) rfl, zTw_of (i := 1001) (by decide +kernel) rfl, ⟨by decide +kernel, by decide +kernel, by decide +kernel⟩, by decide, (fun h => (by cases h)), (fun _ => ⟨zTw_of (i := 4086) (by decide +kernel) rfl, zTw_ofP (i := 23) (by decide +kernel) rfl⟩)⟩
def kX10_nearestTo : mM := (yX10_nearestTo, RX10, cX10_nearestTo, 6, some .int, 1, 1)
theorem mkX10_nearestTo : zMok kX10_nearestTo := ⟨zTw_of (i := 4091) (by decide +kernel) rfl, zTw_of (i := 1001) (by decide +kernel) rfl, ⟨by decide +kernel, by decide +kernel, by decide +kernel⟩, by decide, (fun h => (by cases h)), (fun _ => ⟨zTw_of (i := 4090) (by decide +kernel) rfl, zTw_ofP (i := 24) (by decide +kernel) rfl⟩)⟩
def kX10_agree : mM := (yX10_agree, RX10, cX10_agree, 5, some .int, 1, 2)
theorem mkX10_agree : zMok kX10_agree := ⟨zTw_of (i := 4095) (by decide +kernel) rfl, zTw_of (i := 1001) (by decide +kernel) rfl, ⟨by decide +kernel, by decide +kernel, by decide +kernel⟩, by decide, (fun h => (by cases h)), (fun _ => ⟨zTw_of (i := 4093) (by decide +kernel) rfl, zTw_of (i := 4094) (by decide +kernel) rfl⟩)⟩
def kX10_three : mM := (yX10_three, RX10, cX10_three, 6, some .int, 1, 3)
theorem mkX10_three : zMok kX10_three := ⟨zTw_of (i := 4099) (by decide +kernel) rfl, zTw_of (i := 1001) (by decide +kernel) rfl, ⟨by decide +kernel, by decide +kernel, by decide +kernel⟩, by decide, (fun h => (by cases h)), (fun _ => ⟨zTw_of (i := 4097) (by decide +kernel) rfl, zTw_of (i := 4098) (by decide +kernel) rfl⟩)⟩
def kX3_begin : mM := (yX3_begin, RX3, cX3_begin, 2, none, 1, 1)
theorem mkX3_begin : zMok kX3_begin := ⟨zTw_of (i := 4103) (by decide +kernel) rfl, zTw_of (i := 1008) (by decide +kernel) rfl, ⟨by decide +kernel, by decide +kernel, by decide +kernel⟩, by decide, (fun h => (by cases h)), (fun _ => ⟨zTw_of (i := 4101) (by decide +kernel) rfl, zTw_of (i := 4102) (by decide +kernel) rfl⟩)⟩
def kX3_tryAll : mM := (yX3_tryAll, RX3, cX3_tryAll, 7, none, 1, 3)
theorem mkX3_tryAll : zMok kX3_tryAll := ⟨zTw_of (i := 4108) (by decide +kernel) rfl, zTw_of (i := 1008) (by decide +kernel) rfl, ⟨by decide +kernel, by decide +kernel, by decide +kernel⟩, by decide, (fun h => (by cases h)), (fun _ => ⟨zTw_of (i := 4106) (by decide +kernel) rfl, zTw_of (i := 4107) (by decide +kernel) rfl⟩)⟩
def kX3_firstOf : mM := (yX3_firstOf, RX3, cX3_firstOf, 3, some .int, 0, 1)
theorem mkX3_firstOf : zMok kX3_firstOf := ⟨zTw_of (i := 4111) (by decide +kernel) rfl, zTw_of (i := 1008) (by decide +kernel) rfl, ⟨by decide +kernel, by decide +kernel, by decide +kernel⟩, by decide, (fun _ => zTw_of (i := 4110) (by decide +kernel) rfl), (fun h => (by cases h))⟩
def kX3_bestOf : mM := (yX3_bestOf, RX3, cX3_bestOf, 5, some .int, 1, 1)
theorem mkX3_bestOf : zMok kX3_bestOf := ⟨zTw_of (i := 4117) (by decide +kernel) rfl, zTw_of (i := 1008) (by decide +kernel) rfl, ⟨by decide +kernel, by decide +kernel, by decide +kernel⟩, by decide, (fun h => (by cases h)), (fun _ => ⟨zTw_of (i := 4115) (by decide +kernel) rfl, zTw_of (i := 4116) (by decide +kernel) rfl⟩)⟩
def kX3_numberOf : mM := (yX3_numberOf, RX3, cX3_numberOf, 6, some .int, 1, 1)
theorem mkX3_numberOf : zMok kX3_numberOf := ⟨zTw_of (i := 4121) (by decide +kernel) rfl, zTw_of (i := 1008) (by decide +kernel) rfl, ⟨by decide +kernel, by decide +kernel, by decide +kernel⟩, by decide, (fun h => (by cases h)), (fun _ => ⟨zTw_of (i := 4119) (by decide +kernel) rfl, zTw_of (i := 4120) (by decide +kernel) rfl⟩)⟩
def kX3_laidOn : mM := (yX3_laidOn, RX3, cX3_laidOn, 2, some .int, 1, 1)
theorem mkX3_laidOn : zMok kX3_laidOn := ⟨zTw_of (i := 4125) (by decide +kernel) rfl, zTw_of (i := 1008) (by decide +kernel) rfl, ⟨by decide +kernel, by decide +kernel, by decide +kernel⟩, by decide, (fun h => (by cases h)), (fun _ => ⟨zTw_of (i := 4123) (by decide +kernel) rfl, zTw_of (i := 4124) (by decide +kernel) rfl⟩)⟩
def kX10_whom : mM := (yX10_whom, RX10, cX10_whom, 7, some .int, 1, 2)
theorem mkX10_whom : zMok kX10_whom := ⟨zTw_of (i := 4129) (by decide +kernel) rfl, zTw_of (i := 1001) (by decide +kernel) rfl, ⟨by decide +kernel, by decide +kernel, by decide +kernel⟩, by decide, (fun h => (by cases h)), (fun _ => ⟨zTw_of (i := 4127) (by decide +kernel) rfl, zTw_of (i := 4128) (by decide +kernel) rfl⟩)⟩
def kX10_win : mM := (yX10_win, RX10, cX10_win, 5, some .int, 1, 2)
theorem mkX10_win : zMok kX10_win := ⟨zTw_of (i := 4133) (by decide +kernel) rfl, zTw_of (i := 1001) (by decide +kernel) rfl, ⟨by decide +kernel, by decide +kernel, by decide +kernel⟩, by decide, (fun h => (by cases h)), (fun _ => ⟨zTw_of (i := 4131) (by decide +kernel) rfl, zTw_of (i := 4132) (by decide +kernel) rfl⟩)⟩
def kX3_isHeldBehind : mM := (yX3_isHeldBehind, RX3, cX3_isHeldBehind, 5, some .boolean, 1, 2)
theorem mkX3_isHeldBehind : zMok kX3_isHeldBehind := ⟨zTw_of (i := 4137) (by decide +kernel) rfl, zTw_of (i := 1008) (by decide +kernel) rfl, ⟨by decide +kernel, by decide +kernel, by decide +kernel⟩, by decide, (fun h => (by cases h)), (fun _ => ⟨zTw_of (i := 4135) (by decide +kernel) rfl, zTw_of (i := 4136) (by decide +kernel) rfl⟩)⟩
def kX10_tells : mM := (yX10_tells, RX10, cX10_tells, 6, some .int, 1, 3)
theorem mkX10_tells : zMok kX10_tells := ⟨zTw_of (i := 4143) (by decide +kernel) rfl, zTw_of (i := 1001) (by decide +kernel) rfl, ⟨by decide +kernel, by decide +kernel, by decide +kernel⟩, by decide, (fun h => (by cases h)), (fun _ => ⟨zTw_of (i := 4141) (by decide +kernel) rfl, zTw_of (i := 4142) (by decide +kernel) rfl⟩)⟩
def kX10_firstOtherwise : mM := (yX10_firstOtherwise, RX10, cX10_firstOtherwise, 6, some .int, 1, 4)
theorem mkX10_firstOtherwise : zMok kX10_firstOtherwise := ⟨zTw_of (i := 4147) (by decide +kernel) rfl, zTw_of (i := 1001) (by decide +kernel) rfl, ⟨by decide +kernel, by decide +kernel, by decide +kernel⟩, by decide, (fun h => (by cases h)), (fun _ => ⟨zTw_of (i := 4146) (by decide +kernel) rfl, zTw_ofP (i := 25) (by decide +kernel) rfl⟩)⟩
def kX10_kindsTold : mM := (yX10_kindsTold, RX10, cX10_kindsTold, 5, some .int, 1, 2)
theorem mkX10_kindsTold : zMok kX10_kindsTold := ⟨zTw_of (i := 4151) (by decide +kernel) rfl, zTw_of (i := 1001) (by decide +kernel) rfl, ⟨by decide +kernel, by decide +kernel, by decide +kernel⟩, by decide, (fun h => (by cases h)), (fun _ => ⟨zTw_of (i := 4150) (by decide +kernel) rfl, zTw_ofP (i := 26) (by decide +kernel) rfl⟩)⟩
def kX10_numbersTold : mM := (yX10_numbersTold, RX10, cX10_numbersTold, 5, some .int, 1, 2)
theorem mkX10_numbersTold : zMok kX10_numbersTold := ⟨zTw_of (i := 4155) (by decide +kernel) rfl, zTw_of (i := 1001) (by decide +kernel) rfl, ⟨by decide +kernel, by decide +kernel, by decide +kernel⟩, by decide, (fun h => (by cases h)), (fun _ => ⟨zTw_of (i := 4154) (by decide +kernel) rfl, zTw_ofP (i := 27) (by decide +kernel) rfl⟩)⟩
def kX10_daysTold : mM := (yX10_daysTold, RX10, cX10_daysTold, 5, some .int, 1, 2)
theorem mkX10_daysTold : zMok kX10_daysTold := ⟨zTw_of (i := 4159) (by decide +kernel) rfl, zTw_of (i := 1001) (by decide +kernel) rfl, ⟨by decide +kernel, by decide +kernel, by decide +kernel⟩, by decide, (fun h => (by cases h)), (fun _ => ⟨zTw_of (i := 4158) (by decide +kernel) rfl, zTw_ofP (i := 28) (by decide +kernel) rfl⟩)⟩
def kX10_firstDayTold : mM := (yX10_firstDayTold, RX10, cX10_firstDayTold, 4, some .int, 1, 2)
theorem mkX10_firstDayTold : zMok kX10_firstDayTold := ⟨zTw_of (i := 4163) (by decide +kernel) rfl, zTw_of (i := 1001) (by decide +kernel) rfl, ⟨by decide +kernel, by decide +kernel, by decide +kernel⟩, by decide, (fun h => (by cases h)), (fun _ => ⟨zTw_of (i := 4162) (by decide +kernel) rfl, zTw_ofP (i := 29) (by decide +kernel) rfl⟩)⟩
def kX10_argumentsTold : mM := (yX10_argumentsTold, RX10, cX10_argumentsTold, 5, some .int, 1, 2)
theorem mkX10_argumentsTold : zMok kX10_argumentsTold := ⟨zTw_of (i := 4167) (by decide +kernel) rfl, zTw_of (i := 1001) (by decide +kernel) rfl, ⟨by decide +kernel, by decide +kernel, by decide +kernel⟩, by decide, (fun h => (by cases h)), (fun _ => ⟨zTw_of (i := 4166) (by decide +kernel) rfl, zTw_ofP (i := 30) (by decide +kernel) rfl⟩)⟩
def kX10_textsTold : mM := (yX10_textsTold, RX10, cX10_textsTold, 5, some .int, 1, 2)
theorem mkX10_textsTold : zMok kX10_textsTold := ⟨zTw_of (i := 4171) (by decide +kernel) rfl, zTw_of (i := 1001) (by decide +kernel) rfl, ⟨by decide +kernel, by decide +kernel, by decide +kernel⟩, by decide, (fun h => (by cases h)), (fun _ => ⟨zTw_of (i := 4170) (by decide +kernel) rfl, zTw_ofP (i := 31) (by decide +kernel) rfl⟩)⟩
def kX10_hensTold : mM := (yX10_hensTold, RX10, cX10_hensTold, 4, some .int, 1, 1)
theorem mkX10_hensTold : zMok kX10_hensTold := ⟨zTw_of (i := 4175) (by decide +kernel) rfl, zTw_of (i := 1001) (by decide +kernel) rfl, ⟨by decide +kernel, by decide +kernel, by decide +kernel⟩, by decide, (fun h => (by cases h)), (fun _ => ⟨zTw_of (i := 4174) (by decide +kernel) rfl, zTw_ofP (i := 32) (by decide +kernel) rfl⟩)⟩
def kX10_film : mM := (yX10_film, RX10, cX10_film, 8, some .int, 1, 2)
theorem mkX10_film : zMok kX10_film := ⟨zTw_of (i := 4179) (by decide +kernel) rfl, zTw_of (i := 1001) (by decide +kernel) rfl, ⟨by decide +kernel, by decide +kernel, by decide +kernel⟩, by decide, (fun h => (by cases h)), (fun _ => ⟨zTw_of (i := 4177) (by decide +kernel) rfl, zTw_of (i := 4178) (by decide +kernel) rfl⟩)⟩
def kX5_become : mM := (yX5_become, RX5, cX5_become, 4, none, 1, 2)
theorem mkX5_become : zMok kX5_become := ⟨zTw_of (i := 4183) (by decide +kernel) rfl, zTw_of (i := 1011) (by decide +kernel) rfl, ⟨by decide +kernel, by decide +kernel, by decide +kernel⟩, by decide, (fun h => (by cases h)), (fun _ => ⟨zTw_of (i := 4181) (by decide +kernel) rfl, zTw_of (i := 4182) (by decide +kernel) rfl⟩)⟩
def kX5_write : mM := (yX5_write, RX5, cX5_write, 3, none, 1, 2)
theorem mkX5_write : zMok kX5_write := ⟨zTw_of (i := 4189) (by decide +kernel) rfl, zTw_of (i := 1011) (by decide +kernel) rfl, ⟨by decide +kernel, by decide +kernel, by decide +kernel⟩, by decide, (fun h => (by cases h)), (fun _ => ⟨zTw_of (i := 4187) (by decide +kernel) rfl, zTw_of (i := 4188) (by decide +kernel) rfl⟩)⟩
def kX10_drawn : mM := (yX10_drawn, RX10, cX10_drawn, 5, some .int, 1, 3)
theorem mkX10_drawn : zMok kX10_drawn := ⟨zTw_of (i := 4193) (by decide +kernel) rfl, zTw_of (i := 1001) (by decide +kernel) rfl, ⟨by decide +kernel, by decide +kernel, by decide +kernel⟩, by decide, (fun h => (by cases h)), (fun _ => ⟨zTw_of (i := 4191) (by decide +kernel) rfl, zTw_of (i := 4192) (by decide +kernel) rfl⟩)⟩
def kX10_laidOnDrawn : mM := (yX10_laidOnDrawn, RX10, cX10_laidOnDrawn, 7, some .int, 1, 3)
theorem mkX10_laidOnDrawn : zMok kX10_laidOnDrawn := ⟨zTw_of (i := 4197) (by decide +kernel) rfl, zTw_of (i := 1001) (by decide +kernel) rfl, ⟨by decide +kernel, by decide +kernel, by decide +kernel⟩, by decide, (fun h => (by cases h)), (fun _ => ⟨zTw_of (i := 4196) (by decide +kernel) rfl, zTw_ofP (i := 33) (by decide +kernel) rfl⟩)⟩
def kX10_chance : mM := (yX10_chance, RX10, cX10_chance, 9, some .long, 1, 5)
theorem mkX10_chance : zMok kX10_chance := ⟨zTw_of (i := 4202) (by decide +kernel) rfl, zTw_of (i := 1001) (by decide +kernel) rfl, ⟨by decide +kernel, by decide +kernel, by decide +kernel⟩, by decide, (fun h => (by cases h)), (fun _ => ⟨zTw_of (i := 4200) (by decide +kernel) rfl, zTw_of (i := 4201) (by decide +kernel) rfl⟩)⟩
def kX10_image : mM := (yX10_image, RX10, cX10_image, 2, some .int, 1, 0)
theorem mkX10_image : zMok kX10_image := ⟨zTw_of (i := 4206) (by decide +kernel) rfl, zTw_of (i := 1001) (by decide +kernel) rfl, ⟨by decide +kernel, by decide +kernel, by decide +kernel⟩, by decide, (fun h => (by cases h)), (fun _ => ⟨zTw_of (i := 4204) (by decide +kernel) rfl, zTw_of (i := 4205) (by decide +kernel) rfl⟩)⟩
def kX6_become : mM := (yX6_become, RX6, cX6_become, 2, none, 1, 1)
theorem mkX6_become : zMok kX6_become := ⟨zTw_of (i := 4210) (by decide +kernel) rfl, zTw_of (i := 1002) (by decide +kernel) rfl, ⟨by decide +kernel, by decide +kernel, by decide +kernel⟩, by decide, (fun h => (by cases h)), (fun _ => ⟨zTw_of (i := 4208) (by decide +kernel) rfl, zTw_of (i := 4209) (by decide +kernel) rfl⟩)⟩
def kX10_back : mM := (yX10_back, RX10, cX10_back, 2, some .int, 1, 0)
theorem mkX10_back : zMok kX10_back := ⟨zTw_of (i := 4215) (by decide +kernel) rfl, zTw_of (i := 1001) (by decide +kernel) rfl, ⟨by decide +kernel, by decide +kernel, by decide +kernel⟩, by decide, (fun h => (by cases h)), (fun _ => ⟨zTw_of (i := 4213) (by decide +kernel) rfl, zTw_of (i := 4214) (by decide +kernel) rfl⟩)⟩
def kX10_count : mM := (yX10_count, RX10, cX10_count, 2, some .int, 1, 1)
theorem mkX10_count : zMok kX10_count := ⟨zTw_of (i := 4219) (by decide +kernel) rfl, zTw_of (i := 1001) (by decide +kernel) rfl, ⟨by decide +kernel, by decide +kernel, by decide +kernel⟩, by decide, (fun h => (by cases h)), (fun _ => ⟨zTw_of (i := 4217) (by decide +kernel) rfl, zTw_of (i := 4218) (by decide +kernel) rfl⟩)⟩
def kX6_twos : mM := (yX6_twos, RX6, cX6_twos, 3, some .int, 1, 0)
theorem mkX6_twos : zMok kX6_twos := ⟨zTw_of (i := 4223) (by decide +kernel) rfl, zTw_of (i := 1002) (by decide +kernel) rfl, ⟨by decide +kernel, by decide +kernel, by decide +kernel⟩, by decide, (fun h => (by cases h)), (fun _ => ⟨zTw_of (i := 4221) (by decide +kernel) rfl, zTw_of (i := 4222) (by decide +kernel) rfl⟩)⟩
def kX10_eggsOfAll : mM := (yX10_eggsOfAll, RX10, cX10_eggsOfAll, 3, some .int, 1, 0)
theorem mkX10_eggsOfAll : zMok kX10_eggsOfAll := ⟨zTw_of (i := 4227) (by decide +kernel) rfl, zTw_of (i := 1001) (by decide +kernel) rfl, ⟨by decide +kernel, by decide +kernel, by decide +kernel⟩, by decide, (fun h => (by cases h)), (fun _ => ⟨zTw_of (i := 4226) (by decide +kernel) rfl, zTw_ofP (i := 34) (by decide +kernel) rfl⟩)⟩
def kX10_sheet : mM := (yX10_sheet, RX10, cX10_sheet, 5, some .int, 1, 3)
theorem mkX10_sheet : zMok kX10_sheet := ⟨zTw_of (i := 4231) (by decide +kernel) rfl, zTw_of (i := 1001) (by decide +kernel) rfl, ⟨by decide +kernel, by decide +kernel, by decide +kernel⟩, by decide, (fun h => (by cases h)), (fun _ => ⟨zTw_of (i := 4229) (by decide +kernel) rfl, zTw_of (i := 4230) (by decide +kernel) rfl⟩)⟩
def kX10_isSort : mM := (yX10_isSort, RX10, cX10_isSort, 1, some .boolean, 0, 1)
theorem mkX10_isSort : zMok kX10_isSort := ⟨zTw_of (i := 4234) (by decide +kernel) rfl, zTw_of (i := 1001) (by decide +kernel) rfl, ⟨by decide +kernel, by decide +kernel, by decide +kernel⟩, by decide, (fun _ => zTw_of (i := 4233) (by decide +kernel) rfl), (fun h => (by cases h))⟩
def kX10_cell : mM := (yX10_cell, RX10, cX10_cell, 5, some .int, 1, 3)
theorem mkX10_cell : zMok kX10_cell := ⟨zTw_of (i := 4238) (by decide +kernel) rfl, zTw_of (i := 1001) (by decide +kernel) rfl, ⟨by decide +kernel, by decide +kernel, by decide +kernel⟩, by decide, (fun h => (by cases h)), (fun _ => ⟨zTw_of (i := 4236) (by decide +kernel) rfl, zTw_of (i := 4237) (by decide +kernel) rfl⟩)⟩
def kX10_copy : mM := (yX10_copy, RX10, cX10_copy, 8, some .int, 1, 5)
theorem mkX10_copy : zMok kX10_copy := ⟨zTw_of (i := 5003) (by decide +kernel) rfl, zTw_of (i := 1001) (by decide +kernel) rfl, ⟨by decide +kernel, by decide +kernel, by decide +kernel⟩, by decide, (fun h => (by cases h)), (fun _ => ⟨zTw_of (i := 5001) (by decide +kernel) rfl, zTw_of (i := 5002) (by decide +kernel) rfl⟩)⟩
def kX5_sort : mM := (yX5_sort, RX5, cX5_sort, 1, some .int, 1, 0)
theorem mkX5_sort : zMok kX5_sort := ⟨zTw_of (i := 5007) (by decide +kernel) rfl, zTw_of (i := 1011) (by decide +kernel) rfl, ⟨by decide +kernel, by decide +kernel, by decide +kernel⟩, by decide, (fun h => (by cases h)), (fun _ => ⟨zTw_of (i := 5005) (by decide +kernel) rfl, zTw_of (i := 5006) (by decide +kernel) rfl⟩)⟩
def kX5_copyTo : mM := (yX5_copyTo, RX5, cX5_copyTo, 5, none, 1, 4)
theorem mkX5_copyTo : zMok kX5_copyTo := ⟨zTw_of (i := 5011) (by decide +kernel) rfl, zTw_of (i := 1011) (by decide +kernel) rfl, ⟨by decide +kernel, by decide +kernel, by decide +kernel⟩, by decide, (fun h => (by cases h)), (fun _ => ⟨zTw_of (i := 5009) (by decide +kernel) rfl, zTw_of (i := 5010) (by decide +kernel) rfl⟩)⟩
def kX10_hens : mM := (yX10_hens, RX10, cX10_hens, 9, some .int, 1, 4)
theorem mkX10_hens : zMok kX10_hens := ⟨zTw_of (i := 5016) (by decide +kernel) rfl, zTw_of (i := 1001) (by decide +kernel) rfl, ⟨by decide +kernel, by decide +kernel, by decide +kernel⟩, by decide, (fun h => (by cases h)), (fun _ => ⟨zTw_of (i := 5014) (by decide +kernel) rfl, zTw_of (i := 5015) (by decide +kernel) rfl⟩)⟩
def kX10_taken : mM := (yX10_taken, RX10, cX10_taken, 4, some .int, 1, 2)
theorem mkX10_taken : zMok kX10_taken := ⟨zTw_of (i := 5021) (by decide +kernel) rfl, zTw_of (i := 1001) (by decide +kernel) rfl, ⟨by decide +kernel, by decide +kernel, by decide +kernel⟩, by decide, (fun h => (by cases h)), (fun _ => ⟨zTw_of (i := 5019) (by decide +kernel) rfl, zTw_of (i := 5020) (by decide +kernel) rfl⟩)⟩
def kX10_isUnder : mM := (yX10_isUnder, RX10, cX10_isUnder, 4, some .boolean, 0, 2)
theorem mkX10_isUnder : zMok kX10_isUnder := ⟨zTw_of (i := 5024) (by decide +kernel) rfl, zTw_of (i := 1001) (by decide +kernel) rfl, ⟨by decide +kernel, by decide +kernel, by decide +kernel⟩, by decide, (fun _ => zTw_of (i := 5023) (by decide +kernel) rfl), (fun h => (by cases h))⟩
def kX11_init : mM := (yX11_init, RX11, cX11_init, 1, none, 2, 0)
theorem mkX11_init : zMok kX11_init := ⟨zTw_of (i := 5031) (by decide +kernel) rfl, zTw_of (i := 1019) (by decide +kernel) rfl, ⟨by decide +kernel, by decide +kernel, by decide +kernel⟩, by decide, (fun h => (by cases h)), (fun h => (by cases h))⟩
def kX11_spell : mM := (yX11_spell, RX11, cX11_spell, 10, none, 1, 9)
theorem mkX11_spell : zMok kX11_spell := ⟨zTw_of (i := 5036) (by decide +kernel) rfl, zTw_of (i := 1019) (by decide +kernel) rfl, ⟨by decide +kernel, by decide +kernel, by decide +kernel⟩, by decide, (fun h => (by cases h)), (fun _ => ⟨zTw_of (i := 5035) (by decide +kernel) rfl, zTw_ofP (i := 35) (by decide +kernel) rfl⟩)⟩
def kX11_against : mM := (yX11_against, RX11, cX11_against, 5, some .int, 1, 3)
theorem mkX11_against : zMok kX11_against := ⟨zTw_of (i := 5179) (by decide +kernel) rfl, zTw_of (i := 1019) (by decide +kernel) rfl, ⟨by decide +kernel, by decide +kernel, by decide +kernel⟩, by decide, (fun h => (by cases h)), (fun _ => ⟨zTw_of (i := 5177) (by decide +kernel) rfl, zTw_of (i := 5178) (by decide +kernel) rfl⟩)⟩
def kX11_isPoint : mM := (yX11_isPoint, RX11, cX11_isPoint, 1, some .boolean, 0, 1)
theorem mkX11_isPoint : zMok kX11_isPoint := ⟨zTw_of (i := 5182) (by decide +kernel) rfl, zTw_of (i := 1019) (by decide +kernel) rfl, ⟨by decide +kernel, by decide +kernel, by decide +kernel⟩, by decide, (fun _ => zTw_of (i := 5181) (by decide +kernel) rfl), (fun h => (by cases h))⟩
def kX11_in : mM := (yX11_in, RX11, cX11_in, 6, some .boolean, 0, 3)
theorem mkX11_in : zMok kX11_in := ⟨zTw_of (i := 5186) (by decide +kernel) rfl, zTw_of (i := 1019) (by decide +kernel) rfl, ⟨by decide +kernel, by decide +kernel, by decide +kernel⟩, by decide, (fun _ => zTw_of (i := 5185) (by decide +kernel) rfl), (fun h => (by cases h))⟩
def kX11_set : mM := (yX11_set, RX11, cX11_set, 5, some .int, 1, 3)
theorem mkX11_set : zMok kX11_set := ⟨zTw_of (i := 5190) (by decide +kernel) rfl, zTw_of (i := 1019) (by decide +kernel) rfl, ⟨by decide +kernel, by decide +kernel, by decide +kernel⟩, by decide, (fun h => (by cases h)), (fun _ => ⟨zTw_of (i := 5188) (by decide +kernel) rfl, zTw_of (i := 5189) (by decide +kernel) rfl⟩)⟩
def kX11_isHen : mM := (yX11_isHen, RX11, cX11_isHen, 2, some .boolean, 1, 1)
theorem mkX11_isHen : zMok kX11_isHen := ⟨zTw_of (i := 5195) (by decide +kernel) rfl, zTw_of (i := 1019) (by decide +kernel) rfl, ⟨by decide +kernel, by decide +kernel, by decide +kernel⟩, by decide, (fun h => (by cases h)), (fun _ => ⟨zTw_of (i := 5194) (by decide +kernel) rfl, zTw_ofP (i := 36) (by decide +kernel) rfl⟩)⟩
def kX11_mostOf : mM := (yX11_mostOf, RX11, cX11_mostOf, 1, some .int, 0, 1)
theorem mkX11_mostOf : zMok kX11_mostOf := ⟨zTw_of (i := 5198) (by decide +kernel) rfl, zTw_of (i := 1019) (by decide +kernel) rfl, ⟨by decide +kernel, by decide +kernel, by decide +kernel⟩, by decide, (fun _ => zTw_of (i := 5197) (by decide +kernel) rfl), (fun h => (by cases h))⟩
def kX11_told : mM := (yX11_told, RX11, cX11_told, 3, some .int, 1, 2)
theorem mkX11_told : zMok kX11_told := ⟨zTw_of (i := 5202) (by decide +kernel) rfl, zTw_of (i := 1019) (by decide +kernel) rfl, ⟨by decide +kernel, by decide +kernel, by decide +kernel⟩, by decide, (fun h => (by cases h)), (fun _ => ⟨zTw_of (i := 5200) (by decide +kernel) rfl, zTw_of (i := 5201) (by decide +kernel) rfl⟩)⟩
def kX11_dropSet : mM := (yX11_dropSet, RX11, cX11_dropSet, 4, some .int, 1, 1)
theorem mkX11_dropSet : zMok kX11_dropSet := ⟨zTw_of (i := 5207) (by decide +kernel) rfl, zTw_of (i := 1019) (by decide +kernel) rfl, ⟨by decide +kernel, by decide +kernel, by decide +kernel⟩, by decide, (fun h => (by cases h)), (fun _ => ⟨zTw_of (i := 5206) (by decide +kernel) rfl, zTw_ofP (i := 37) (by decide +kernel) rfl⟩)⟩
def kX11_holdsIt : mM := (yX11_holdsIt, RX11, cX11_holdsIt, 3, some .boolean, 1, 2)
theorem mkX11_holdsIt : zMok kX11_holdsIt := ⟨zTw_of (i := 5211) (by decide +kernel) rfl, zTw_of (i := 1019) (by decide +kernel) rfl, ⟨by decide +kernel, by decide +kernel, by decide +kernel⟩, by decide, (fun h => (by cases h)), (fun _ => ⟨zTw_of (i := 5210) (by decide +kernel) rfl, zTw_ofP (i := 38) (by decide +kernel) rfl⟩)⟩
def kX11_holdsOf : mM := (yX11_holdsOf, RX11, cX11_holdsOf, 2, some .int, 1, 1)
theorem mkX11_holdsOf : zMok kX11_holdsOf := ⟨zTw_of (i := 5215) (by decide +kernel) rfl, zTw_of (i := 1019) (by decide +kernel) rfl, ⟨by decide +kernel, by decide +kernel, by decide +kernel⟩, by decide, (fun h => (by cases h)), (fun _ => ⟨zTw_of (i := 5214) (by decide +kernel) rfl, zTw_ofP (i := 39) (by decide +kernel) rfl⟩)⟩
def kX11_dropsIt : mM := (yX11_dropsIt, RX11, cX11_dropsIt, 5, some .boolean, 1, 2)
theorem mkX11_dropsIt : zMok kX11_dropsIt := ⟨zTw_of (i := 5219) (by decide +kernel) rfl, zTw_of (i := 1019) (by decide +kernel) rfl, ⟨by decide +kernel, by decide +kernel, by decide +kernel⟩, by decide, (fun h => (by cases h)), (fun _ => ⟨zTw_of (i := 5218) (by decide +kernel) rfl, zTw_ofP (i := 40) (by decide +kernel) rfl⟩)⟩
def kX11_says : mM := (yX11_says, RX11, cX11_says, 5, some .int, 1, 3)
theorem mkX11_says : zMok kX11_says := ⟨zTw_of (i := 5223) (by decide +kernel) rfl, zTw_of (i := 1019) (by decide +kernel) rfl, ⟨by decide +kernel, by decide +kernel, by decide +kernel⟩, by decide, (fun h => (by cases h)), (fun _ => ⟨zTw_of (i := 5222) (by decide +kernel) rfl, zTw_ofP (i := 41) (by decide +kernel) rfl⟩)⟩
def kX11_objects : mM := (yX11_objects, RX11, cX11_objects, 3, some .int, 1, 2)
theorem mkX11_objects : zMok kX11_objects := ⟨zTw_of (i := 5227) (by decide +kernel) rfl, zTw_of (i := 1019) (by decide +kernel) rfl, ⟨by decide +kernel, by decide +kernel, by decide +kernel⟩, by decide, (fun h => (by cases h)), (fun _ => ⟨zTw_of (i := 5226) (by decide +kernel) rfl, zTw_ofP (i := 42) (by decide +kernel) rfl⟩)⟩
def kX11_foes : mM := (yX11_foes, RX11, cX11_foes, 4, some .int, 1, 1)
theorem mkX11_foes : zMok kX11_foes := ⟨zTw_of (i := 5231) (by decide +kernel) rfl, zTw_of (i := 1019) (by decide +kernel) rfl, ⟨by decide +kernel, by decide +kernel, by decide +kernel⟩, by decide, (fun h => (by cases h)), (fun _ => ⟨zTw_of (i := 5230) (by decide +kernel) rfl, zTw_ofP (i := 43) (by decide +kernel) rfl⟩)⟩
def kX11_bitsOf : mM := (yX11_bitsOf, RX11, cX11_bitsOf, 3, some .int, 0, 1)
theorem mkX11_bitsOf : zMok kX11_bitsOf := ⟨zTw_of (i := 5234) (by decide +kernel) rfl, zTw_of (i := 1019) (by decide +kernel) rfl, ⟨by decide +kernel, by decide +kernel, by decide +kernel⟩, by decide, (fun _ => zTw_of (i := 5233) (by decide +kernel) rfl), (fun h => (by cases h))⟩
def kX11_read : mM := (yX11_read, RX11, cX11_read, 6, some .int, 1, 2)
theorem mkX11_read : zMok kX11_read := ⟨zTw_of (i := 5238) (by decide +kernel) rfl, zTw_of (i := 1019) (by decide +kernel) rfl, ⟨by decide +kernel, by decide +kernel, by decide +kernel⟩, by decide, (fun h => (by cases h)), (fun _ => ⟨zTw_of (i := 5237) (by decide +kernel) rfl, zTw_ofP (i := 44) (by decide +kernel) rfl⟩)⟩
def kX11_next : mM := (yX11_next, RX11, cX11_next, 3, none, 1, 0)
theorem mkX11_next : zMok kX11_next := ⟨zTw_of (i := 6002) (by decide +kernel) rfl, zTw_of (i := 1019) (by decide +kernel) rfl, ⟨by decide +kernel, by decide +kernel, by decide +kernel⟩, by decide, (fun h => (by cases h)), (fun _ => ⟨zTw_of (i := 6001) (by decide +kernel) rfl, zTw_ofP (i := 45) (by decide +kernel) rfl⟩)⟩
def kX11_byteAt : mM := (yX11_byteAt, RX11, cX11_byteAt, 2, some .int, 1, 1)
theorem mkX11_byteAt : zMok kX11_byteAt := ⟨zTw_of (i := 6006) (by decide +kernel) rfl, zTw_of (i := 1019) (by decide +kernel) rfl, ⟨by decide +kernel, by decide +kernel, by decide +kernel⟩, by decide, (fun h => (by cases h)), (fun _ => ⟨zTw_of (i := 6005) (by decide +kernel) rfl, zTw_ofP (i := 46) (by decide +kernel) rfl⟩)⟩
def kX11_isWord : mM := (yX11_isWord, RX11, cX11_isWord, 9, some .boolean, 1, 8)
theorem mkX11_isWord : zMok kX11_isWord := ⟨zTw_of (i := 6015) (by decide +kernel) rfl, zTw_of (i := 1019) (by decide +kernel) rfl, ⟨by decide +kernel, by decide +kernel, by decide +kernel⟩, by decide, (fun h => (by cases h)), (fun _ => ⟨zTw_of (i := 6014) (by decide +kernel) rfl, zTw_ofP (i := 47) (by decide +kernel) rfl⟩)⟩
def kX11_isLetter : mM := (yX11_isLetter, RX11, cX11_isLetter, 3, some .boolean, 1, 2)
theorem mkX11_isLetter : zMok kX11_isLetter := ⟨zTw_of (i := 6019) (by decide +kernel) rfl, zTw_of (i := 1019) (by decide +kernel) rfl, ⟨by decide +kernel, by decide +kernel, by decide +kernel⟩, by decide, (fun h => (by cases h)), (fun _ => ⟨zTw_of (i := 6018) (by decide +kernel) rfl, zTw_ofP (i := 48) (by decide +kernel) rfl⟩)⟩
def kX11_part : mM := (yX11_part, RX11, cX11_part, 3, some .int, 1, 1)
theorem mkX11_part : zMok kX11_part := ⟨zTw_of (i := 6023) (by decide +kernel) rfl, zTw_of (i := 1019) (by decide +kernel) rfl, ⟨by decide +kernel, by decide +kernel, by decide +kernel⟩, by decide, (fun h => (by cases h)), (fun _ => ⟨zTw_of (i := 6022) (by decide +kernel) rfl, zTw_ofP (i := 49) (by decide +kernel) rfl⟩)⟩
def kX11_fail : mM := (yX11_fail, RX11, cX11_fail, 1, none, 1, 0)
theorem mkX11_fail : zMok kX11_fail := ⟨zTw_of (i := 6027) (by decide +kernel) rfl, zTw_of (i := 1019) (by decide +kernel) rfl, ⟨by decide +kernel, by decide +kernel, by decide +kernel⟩, by decide, (fun h => (by cases h)), (fun _ => ⟨zTw_of (i := 6026) (by decide +kernel) rfl, zTw_ofP (i := 50) (by decide +kernel) rfl⟩)⟩
def kX11_either : mM := (yX11_either, RX11, cX11_either, 3, some .int, 1, 0)
theorem mkX11_either : zMok kX11_either := ⟨zTw_of (i := 6031) (by decide +kernel) rfl, zTw_of (i := 1019) (by decide +kernel) rfl, ⟨by decide +kernel, by decide +kernel, by decide +kernel⟩, by decide, (fun h => (by cases h)), (fun _ => ⟨zTw_of (i := 6030) (by decide +kernel) rfl, zTw_ofP (i := 51) (by decide +kernel) rfl⟩)⟩
def kX11_both : mM := (yX11_both, RX11, cX11_both, 3, some .int, 1, 0)
theorem mkX11_both : zMok kX11_both := ⟨zTw_of (i := 6035) (by decide +kernel) rfl, zTw_of (i := 1019) (by decide +kernel) rfl, ⟨by decide +kernel, by decide +kernel, by decide +kernel⟩, by decide, (fun h => (by cases h)), (fun _ => ⟨zTw_of (i := 6034) (by decide +kernel) rfl, zTw_ofP (i := 52) (by decide +kernel) rfl⟩)⟩
def kX11_not : mM := (yX11_not, RX11, cX11_not, 4, some .int, 1, 0)
theorem mkX11_not : zMok kX11_not := ⟨zTw_of (i := 6039) (by decide +kernel) rfl, zTw_of (i := 1019) (by decide +kernel) rfl, ⟨by decide +kernel, by decide +kernel, by decide +kernel⟩, by decide, (fun h => (by cases h)), (fun _ => ⟨zTw_of (i := 6038) (by decide +kernel) rfl, zTw_ofP (i := 53) (by decide +kernel) rfl⟩)⟩
def kX11_opens : mM := (yX11_opens, RX11, cX11_opens, 1, some .boolean, 1, 0)
theorem mkX11_opens : zMok kX11_opens := ⟨zTw_of (i := 6043) (by decide +kernel) rfl, zTw_of (i := 1019) (by decide +kernel) rfl, ⟨by decide +kernel, by decide +kernel, by decide +kernel⟩, by decide, (fun h => (by cases h)), (fun _ => ⟨zTw_of (i := 6042) (by decide +kernel) rfl, zTw_ofP (i := 54) (by decide +kernel) rfl⟩)⟩
def kX11_added : mM := (yX11_added, RX11, cX11_added, 4, some .int, 1, 0)
theorem mkX11_added : zMok kX11_added := ⟨zTw_of (i := 6047) (by decide +kernel) rfl, zTw_of (i := 1019) (by decide +kernel) rfl, ⟨by decide +kernel, by decide +kernel, by decide +kernel⟩, by decide, (fun h => (by cases h)), (fun _ => ⟨zTw_of (i := 6046) (by decide +kernel) rfl, zTw_ofP (i := 55) (by decide +kernel) rfl⟩)⟩
def kX11_term : mM := (yX11_term, RX11, cX11_term, 2, some .int, 1, 0)
theorem mkX11_term : zMok kX11_term := ⟨zTw_of (i := 6051) (by decide +kernel) rfl, zTw_of (i := 1019) (by decide +kernel) rfl, ⟨by decide +kernel, by decide +kernel, by decide +kernel⟩, by decide, (fun h => (by cases h)), (fun _ => ⟨zTw_of (i := 6050) (by decide +kernel) rfl, zTw_ofP (i := 56) (by decide +kernel) rfl⟩)⟩
def kX11_atom : mM := (yX11_atom, RX11, cX11_atom, 2, some .int, 1, 0)
theorem mkX11_atom : zMok kX11_atom := ⟨zTw_of (i := 6055) (by decide +kernel) rfl, zTw_of (i := 1019) (by decide +kernel) rfl, ⟨by decide +kernel, by decide +kernel, by decide +kernel⟩, by decide, (fun h => (by cases h)), (fun _ => ⟨zTw_of (i := 6054) (by decide +kernel) rfl, zTw_ofP (i := 57) (by decide +kernel) rfl⟩)⟩
def kX11_isSign : mM := (yX11_isSign, RX11, cX11_isSign, 2, some .boolean, 1, 1)
theorem mkX11_isSign : zMok kX11_isSign := ⟨zTw_of (i := 6059) (by decide +kernel) rfl, zTw_of (i := 1019) (by decide +kernel) rfl, ⟨by decide +kernel, by decide +kernel, by decide +kernel⟩, by decide, (fun h => (by cases h)), (fun _ => ⟨zTw_of (i := 6058) (by decide +kernel) rfl, zTw_ofP (i := 58) (by decide +kernel) rfl⟩)⟩
def kX11_name : mM := (yX11_name, RX11, cX11_name, 1, some .int, 1, 0)
theorem mkX11_name : zMok kX11_name := ⟨zTw_of (i := 6063) (by decide +kernel) rfl, zTw_of (i := 1019) (by decide +kernel) rfl, ⟨by decide +kernel, by decide +kernel, by decide +kernel⟩, by decide, (fun h => (by cases h)), (fun _ => ⟨zTw_of (i := 6062) (by decide +kernel) rfl, zTw_ofP (i := 59) (by decide +kernel) rfl⟩)⟩
def kX11_within : mM := (yX11_within, RX11, cX11_within, 3, some .int, 0, 3)
theorem mkX11_within : zMok kX11_within := ⟨zTw_of (i := 6068) (by decide +kernel) rfl, zTw_of (i := 1019) (by decide +kernel) rfl, ⟨by decide +kernel, by decide +kernel, by decide +kernel⟩, by decide, (fun _ => zTw_of (i := 6067) (by decide +kernel) rfl), (fun h => (by cases h))⟩
def kX11_lays1 : mM := (yX11_lays1, RX11, cX11_lays1, 4, none, 1, 3)
theorem mkX11_lays1 : zMok kX11_lays1 := ⟨zTw_of (i := 6072) (by decide +kernel) rfl, zTw_of (i := 1019) (by decide +kernel) rfl, ⟨by decide +kernel, by decide +kernel, by decide +kernel⟩, by decide, (fun h => (by cases h)), (fun _ => ⟨zTw_of (i := 6071) (by decide +kernel) rfl, zTw_ofP (i := 60) (by decide +kernel) rfl⟩)⟩
def kX11_hen : mM := (yX11_hen, RX11, cX11_hen, 3, some .int, 1, 2)
theorem mkX11_hen : zMok kX11_hen := ⟨zTw_of (i := 6076) (by decide +kernel) rfl, zTw_of (i := 1019) (by decide +kernel) rfl, ⟨by decide +kernel, by decide +kernel, by decide +kernel⟩, by decide, (fun h => (by cases h)), (fun _ => ⟨zTw_of (i := 6074) (by decide +kernel) rfl, zTw_of (i := 6075) (by decide +kernel) rfl⟩)⟩
def kX11_feed : mM := (yX11_feed, RX11, cX11_feed, 2, some .int, 1, 1)
theorem mkX11_feed : zMok kX11_feed := ⟨zTw_of (i := 6082) (by decide +kernel) rfl, zTw_of (i := 1019) (by decide +kernel) rfl, ⟨by decide +kernel, by decide +kernel, by decide +kernel⟩, by decide, (fun h => (by cases h)), (fun _ => ⟨zTw_of (i := 6080) (by decide +kernel) rfl, zTw_of (i := 6081) (by decide +kernel) rfl⟩)⟩
def kX11_text : mM := (yX11_text, RX11, cX11_text, 2, some .int, 1, 0)
theorem mkX11_text : zMok kX11_text := ⟨zTw_of (i := 6087) (by decide +kernel) rfl, zTw_of (i := 1019) (by decide +kernel) rfl, ⟨by decide +kernel, by decide +kernel, by decide +kernel⟩, by decide, (fun h => (by cases h)), (fun _ => ⟨zTw_of (i := 6085) (by decide +kernel) rfl, zTw_of (i := 6086) (by decide +kernel) rfl⟩)⟩
def kX11_force : mM := (yX11_force, RX11, cX11_force, 3, some .int, 1, 1)
theorem mkX11_force : zMok kX11_force := ⟨zTw_of (i := 6091) (by decide +kernel) rfl, zTw_of (i := 1019) (by decide +kernel) rfl, ⟨by decide +kernel, by decide +kernel, by decide +kernel⟩, by decide, (fun h => (by cases h)), (fun _ => ⟨zTw_of (i := 6089) (by decide +kernel) rfl, zTw_of (i := 6090) (by decide +kernel) rfl⟩)⟩
def kX11_asks : mM := (yX11_asks, RX11, cX11_asks, 4, some .int, 1, 3)
theorem mkX11_asks : zMok kX11_asks := ⟨zTw_of (i := 6095) (by decide +kernel) rfl, zTw_of (i := 1019) (by decide +kernel) rfl, ⟨by decide +kernel, by decide +kernel, by decide +kernel⟩, by decide, (fun h => (by cases h)), (fun _ => ⟨zTw_of (i := 6093) (by decide +kernel) rfl, zTw_of (i := 6094) (by decide +kernel) rfl⟩)⟩
def kX11_laysOf : mM := (yX11_laysOf, RX11, cX11_laysOf, 8, some .int, 1, 2)
theorem mkX11_laysOf : zMok kX11_laysOf := ⟨zTw_of (i := 6099) (by decide +kernel) rfl, zTw_of (i := 1019) (by decide +kernel) rfl, ⟨by decide +kernel, by decide +kernel, by decide +kernel⟩, by decide, (fun h => (by cases h)), (fun _ => ⟨zTw_of (i := 6098) (by decide +kernel) rfl, zTw_ofP (i := 61) (by decide +kernel) rfl⟩)⟩
def kX11_yieldsTo : mM := (yX11_yieldsTo, RX11, cX11_yieldsTo, 5, some .boolean, 1, 2)
theorem mkX11_yieldsTo : zMok kX11_yieldsTo := ⟨zTw_of (i := 6103) (by decide +kernel) rfl, zTw_of (i := 1019) (by decide +kernel) rfl, ⟨by decide +kernel, by decide +kernel, by decide +kernel⟩, by decide, (fun h => (by cases h)), (fun _ => ⟨zTw_of (i := 6102) (by decide +kernel) rfl, zTw_ofP (i := 62) (by decide +kernel) rfl⟩)⟩
def kX11_argue : mM := (yX11_argue, RX11, cX11_argue, 3, some .int, 1, 2)
theorem mkX11_argue : zMok kX11_argue := ⟨zTw_of (i := 6107) (by decide +kernel) rfl, zTw_of (i := 1019) (by decide +kernel) rfl, ⟨by decide +kernel, by decide +kernel, by decide +kernel⟩, by decide, (fun h => (by cases h)), (fun _ => ⟨zTw_of (i := 6105) (by decide +kernel) rfl, zTw_of (i := 6106) (by decide +kernel) rfl⟩)⟩
def kX11_puts : mM := (yX11_puts, RX11, cX11_puts, 4, some .int, 1, 2)
theorem mkX11_puts : zMok kX11_puts := ⟨zTw_of (i := 6111) (by decide +kernel) rfl, zTw_of (i := 1019) (by decide +kernel) rfl, ⟨by decide +kernel, by decide +kernel, by decide +kernel⟩, by decide, (fun h => (by cases h)), (fun _ => ⟨zTw_of (i := 6110) (by decide +kernel) rfl, zTw_ofP (i := 63) (by decide +kernel) rfl⟩)⟩
def kX11_night : mM := (yX11_night, RX11, cX11_night, 1, some .int, 1, 0)
theorem mkX11_night : zMok kX11_night := ⟨zTw_of (i := 6115) (by decide +kernel) rfl, zTw_of (i := 1019) (by decide +kernel) rfl, ⟨by decide +kernel, by decide +kernel, by decide +kernel⟩, by decide, (fun h => (by cases h)), (fun _ => ⟨zTw_of (i := 6113) (by decide +kernel) rfl, zTw_of (i := 6114) (by decide +kernel) rfl⟩)⟩
def kX11_passes : mM := (yX11_passes, RX11, cX11_passes, 3, some .int, 1, 0)
theorem mkX11_passes : zMok kX11_passes := ⟨zTw_of (i := 6119) (by decide +kernel) rfl, zTw_of (i := 1019) (by decide +kernel) rfl, ⟨by decide +kernel, by decide +kernel, by decide +kernel⟩, by decide, (fun h => (by cases h)), (fun _ => ⟨zTw_of (i := 6118) (by decide +kernel) rfl, zTw_ofP (i := 64) (by decide +kernel) rfl⟩)⟩
def kX11_morning : mM := (yX11_morning, RX11, cX11_morning, 7, some .int, 1, 3)
theorem mkX11_morning : zMok kX11_morning := ⟨zTw_of (i := 6123) (by decide +kernel) rfl, zTw_of (i := 1019) (by decide +kernel) rfl, ⟨by decide +kernel, by decide +kernel, by decide +kernel⟩, by decide, (fun h => (by cases h)), (fun _ => ⟨zTw_of (i := 6121) (by decide +kernel) rfl, zTw_of (i := 6122) (by decide +kernel) rfl⟩)⟩
def kX11_isSheet : mM := (yX11_isSheet, RX11, cX11_isSheet, 1, some .boolean, 0, 1)
theorem mkX11_isSheet : zMok kX11_isSheet := ⟨zTw_of (i := 6126) (by decide +kernel) rfl, zTw_of (i := 1019) (by decide +kernel) rfl, ⟨by decide +kernel, by decide +kernel, by decide +kernel⟩, by decide, (fun _ => zTw_of (i := 6125) (by decide +kernel) rfl), (fun h => (by cases h))⟩
def kX11_morningBad : mM := (yX11_morningBad, RX11, cX11_morningBad, 3, some .int, 1, 1)
theorem mkX11_morningBad : zMok kX11_morningBad := ⟨zTw_of (i := 6130) (by decide +kernel) rfl, zTw_of (i := 1019) (by decide +kernel) rfl, ⟨by decide +kernel, by decide +kernel, by decide +kernel⟩, by decide, (fun h => (by cases h)), (fun _ => ⟨zTw_of (i := 6129) (by decide +kernel) rfl, zTw_ofP (i := 65) (by decide +kernel) rfl⟩)⟩
def kX11_laysAside : mM := (yX11_laysAside, RX11, cX11_laysAside, 2, none, 1, 0)
theorem mkX11_laysAside : zMok kX11_laysAside := ⟨zTw_of (i := 6134) (by decide +kernel) rfl, zTw_of (i := 1019) (by decide +kernel) rfl, ⟨by decide +kernel, by decide +kernel, by decide +kernel⟩, by decide, (fun h => (by cases h)), (fun _ => ⟨zTw_of (i := 6133) (by decide +kernel) rfl, zTw_ofP (i := 66) (by decide +kernel) rfl⟩)⟩
def kX11_mornings : mM := (yX11_mornings, RX11, cX11_mornings, 6, some .int, 1, 2)
theorem mkX11_mornings : zMok kX11_mornings := ⟨zTw_of (i := 6138) (by decide +kernel) rfl, zTw_of (i := 1019) (by decide +kernel) rfl, ⟨by decide +kernel, by decide +kernel, by decide +kernel⟩, by decide, (fun h => (by cases h)), (fun _ => ⟨zTw_of (i := 6137) (by decide +kernel) rfl, zTw_ofP (i := 67) (by decide +kernel) rfl⟩)⟩
def kX11_laysBack : mM := (yX11_laysBack, RX11, cX11_laysBack, 2, none, 1, 0)
theorem mkX11_laysBack : zMok kX11_laysBack := ⟨zTw_of (i := 6142) (by decide +kernel) rfl, zTw_of (i := 1019) (by decide +kernel) rfl, ⟨by decide +kernel, by decide +kernel, by decide +kernel⟩, by decide, (fun h => (by cases h)), (fun _ => ⟨zTw_of (i := 6141) (by decide +kernel) rfl, zTw_ofP (i := 68) (by decide +kernel) rfl⟩)⟩
def kX11_teach : mM := (yX11_teach, RX11, cX11_teach, 4, some .int, 1, 2)
theorem mkX11_teach : zMok kX11_teach := ⟨zTw_of (i := 6146) (by decide +kernel) rfl, zTw_of (i := 1019) (by decide +kernel) rfl, ⟨by decide +kernel, by decide +kernel, by decide +kernel⟩, by decide, (fun h => (by cases h)), (fun _ => ⟨zTw_of (i := 6144) (by decide +kernel) rfl, zTw_of (i := 6145) (by decide +kernel) rfl⟩)⟩
def kX11_nights : mM := (yX11_nights, RX11, cX11_nights, 7, some .int, 1, 4)
theorem mkX11_nights : zMok kX11_nights := ⟨zTw_of (i := 6150) (by decide +kernel) rfl, zTw_of (i := 1019) (by decide +kernel) rfl, ⟨by decide +kernel, by decide +kernel, by decide +kernel⟩, by decide, (fun h => (by cases h)), (fun _ => ⟨zTw_of (i := 6148) (by decide +kernel) rfl, zTw_of (i := 6149) (by decide +kernel) rfl⟩)⟩
def kX11_field : mM := (yX11_field, RX11, cX11_field, 2, some .int, 1, 1)
theorem mkX11_field : zMok kX11_field := ⟨zTw_of (i := 6155) (by decide +kernel) rfl, zTw_of (i := 1019) (by decide +kernel) rfl, ⟨by decide +kernel, by decide +kernel, by decide +kernel⟩, by decide, (fun h => (by cases h)), (fun _ => ⟨zTw_of (i := 6153) (by decide +kernel) rfl, zTw_of (i := 6154) (by decide +kernel) rfl⟩)⟩
def kX11_labels : mM := (yX11_labels, RX11, cX11_labels, 3, none, 1, 0)
theorem mkX11_labels : zMok kX11_labels := ⟨zTw_of (i := 6159) (by decide +kernel) rfl, zTw_of (i := 1019) (by decide +kernel) rfl, ⟨by decide +kernel, by decide +kernel, by decide +kernel⟩, by decide, (fun h => (by cases h)), (fun _ => ⟨zTw_of (i := 6158) (by decide +kernel) rfl, zTw_ofP (i := 69) (by decide +kernel) rfl⟩)⟩
def kX11_vainTwos : mM := (yX11_vainTwos, RX11, cX11_vainTwos, 3, some .int, 1, 0)
theorem mkX11_vainTwos : zMok kX11_vainTwos := ⟨zTw_of (i := 6163) (by decide +kernel) rfl, zTw_of (i := 1019) (by decide +kernel) rfl, ⟨by decide +kernel, by decide +kernel, by decide +kernel⟩, by decide, (fun h => (by cases h)), (fun _ => ⟨zTw_of (i := 6162) (by decide +kernel) rfl, zTw_ofP (i := 70) (by decide +kernel) rfl⟩)⟩
def kX11_counted : mM := (yX11_counted, RX11, cX11_counted, 5, some .int, 1, 1)
theorem mkX11_counted : zMok kX11_counted := ⟨zTw_of (i := 6167) (by decide +kernel) rfl, zTw_of (i := 1019) (by decide +kernel) rfl, ⟨by decide +kernel, by decide +kernel, by decide +kernel⟩, by decide, (fun h => (by cases h)), (fun _ => ⟨zTw_of (i := 6166) (by decide +kernel) rfl, zTw_ofP (i := 71) (by decide +kernel) rfl⟩)⟩
def kX11_isFree : mM := (yX11_isFree, RX11, cX11_isFree, 3, some .boolean, 1, 1)
theorem mkX11_isFree : zMok kX11_isFree := ⟨zTw_of (i := 6171) (by decide +kernel) rfl, zTw_of (i := 1019) (by decide +kernel) rfl, ⟨by decide +kernel, by decide +kernel, by decide +kernel⟩, by decide, (fun h => (by cases h)), (fun _ => ⟨zTw_of (i := 6170) (by decide +kernel) rfl, zTw_ofP (i := 72) (by decide +kernel) rfl⟩)⟩
def kX11_isStable : mM := (yX11_isStable, RX11, cX11_isStable, 4, some .boolean, 1, 1)
theorem mkX11_isStable : zMok kX11_isStable := ⟨zTw_of (i := 6175) (by decide +kernel) rfl, zTw_of (i := 1019) (by decide +kernel) rfl, ⟨by decide +kernel, by decide +kernel, by decide +kernel⟩, by decide, (fun h => (by cases h)), (fun _ => ⟨zTw_of (i := 6174) (by decide +kernel) rfl, zTw_ofP (i := 73) (by decide +kernel) rfl⟩)⟩
def kX11_sets : mM := (yX11_sets, RX11, cX11_sets, 3, some .int, 1, 2)
theorem mkX11_sets : zMok kX11_sets := ⟨zTw_of (i := 6179) (by decide +kernel) rfl, zTw_of (i := 1019) (by decide +kernel) rfl, ⟨by decide +kernel, by decide +kernel, by decide +kernel⟩, by decide, (fun h => (by cases h)), (fun _ => ⟨zTw_of (i := 6177) (by decide +kernel) rfl, zTw_of (i := 6178) (by decide +kernel) rfl⟩)⟩
def kX11_defended : mM := (yX11_defended, RX11, cX11_defended, 6, some .int, 1, 1)
theorem mkX11_defended : zMok kX11_defended := ⟨zTw_of (i := 6185) (by decide +kernel) rfl, zTw_of (i := 1019) (by decide +kernel) rfl, ⟨by decide +kernel, by decide +kernel, by decide +kernel⟩, by decide, (fun h => (by cases h)), (fun _ => ⟨zTw_of (i := 6184) (by decide +kernel) rfl, zTw_ofP (i := 74) (by decide +kernel) rfl⟩)⟩
def kX11_share : mM := (yX11_share, RX11, cX11_share, 2, some .long, 1, 1)
theorem mkX11_share : zMok kX11_share := ⟨zTw_of (i := 6189) (by decide +kernel) rfl, zTw_of (i := 1019) (by decide +kernel) rfl, ⟨by decide +kernel, by decide +kernel, by decide +kernel⟩, by decide, (fun h => (by cases h)), (fun _ => ⟨zTw_of (i := 6187) (by decide +kernel) rfl, zTw_of (i := 6188) (by decide +kernel) rfl⟩)⟩
def kX11_lowest : mM := (yX11_lowest, RX11, cX11_lowest, 11, some .long, 0, 3)
theorem mkX11_lowest : zMok kX11_lowest := ⟨zTw_of (i := 6193) (by decide +kernel) rfl, zTw_of (i := 1019) (by decide +kernel) rfl, ⟨by decide +kernel, by decide +kernel, by decide +kernel⟩, by decide, (fun _ => zTw_of (i := 6192) (by decide +kernel) rfl), (fun h => (by cases h))⟩
def kX11_best : mM := (yX11_best, RX11, cX11_best, 8, some .int, 1, 2)
theorem mkX11_best : zMok kX11_best := ⟨zTw_of (i := 6197) (by decide +kernel) rfl, zTw_of (i := 1019) (by decide +kernel) rfl, ⟨by decide +kernel, by decide +kernel, by decide +kernel⟩, by decide, (fun h => (by cases h)), (fun _ => ⟨zTw_of (i := 6195) (by decide +kernel) rfl, zTw_of (i := 6196) (by decide +kernel) rfl⟩)⟩
def kX11_agreed : mM := (yX11_agreed, RX11, cX11_agreed, 3, some .int, 1, 2)
theorem mkX11_agreed : zMok kX11_agreed := ⟨zTw_of (i := 6201) (by decide +kernel) rfl, zTw_of (i := 1019) (by decide +kernel) rfl, ⟨by decide +kernel, by decide +kernel, by decide +kernel⟩, by decide, (fun h => (by cases h)), (fun _ => ⟨zTw_of (i := 6200) (by decide +kernel) rfl, zTw_ofP (i := 75) (by decide +kernel) rfl⟩)⟩
def kX11_three : mM := (yX11_three, RX11, cX11_three, 4, some .int, 1, 3)
theorem mkX11_three : zMok kX11_three := ⟨zTw_of (i := 6205) (by decide +kernel) rfl, zTw_of (i := 1019) (by decide +kernel) rfl, ⟨by decide +kernel, by decide +kernel, by decide +kernel⟩, by decide, (fun h => (by cases h)), (fun _ => ⟨zTw_of (i := 6203) (by decide +kernel) rfl, zTw_of (i := 6204) (by decide +kernel) rfl⟩)⟩
def kX11_tries : mM := (yX11_tries, RX11, cX11_tries, 9, none, 1, 4)
theorem mkX11_tries : zMok kX11_tries := ⟨zTw_of (i := 6209) (by decide +kernel) rfl, zTw_of (i := 1019) (by decide +kernel) rfl, ⟨by decide +kernel, by decide +kernel, by decide +kernel⟩, by decide, (fun h => (by cases h)), (fun _ => ⟨zTw_of (i := 6208) (by decide +kernel) rfl, zTw_ofP (i := 76) (by decide +kernel) rfl⟩)⟩
def kX11_whom : mM := (yX11_whom, RX11, cX11_whom, 7, some .int, 1, 2)
theorem mkX11_whom : zMok kX11_whom := ⟨zTw_of (i := 6213) (by decide +kernel) rfl, zTw_of (i := 1019) (by decide +kernel) rfl, ⟨by decide +kernel, by decide +kernel, by decide +kernel⟩, by decide, (fun h => (by cases h)), (fun _ => ⟨zTw_of (i := 6211) (by decide +kernel) rfl, zTw_of (i := 6212) (by decide +kernel) rfl⟩)⟩
def kX11_win : mM := (yX11_win, RX11, cX11_win, 4, some .int, 1, 2)
theorem mkX11_win : zMok kX11_win := ⟨zTw_of (i := 6217) (by decide +kernel) rfl, zTw_of (i := 1019) (by decide +kernel) rfl, ⟨by decide +kernel, by decide +kernel, by decide +kernel⟩, by decide, (fun h => (by cases h)), (fun _ => ⟨zTw_of (i := 6215) (by decide +kernel) rfl, zTw_of (i := 6216) (by decide +kernel) rfl⟩)⟩
def kX11_comesTo : mM := (yX11_comesTo, RX11, cX11_comesTo, 8, some .boolean, 1, 3)
theorem mkX11_comesTo : zMok kX11_comesTo := ⟨zTw_of (i := 6221) (by decide +kernel) rfl, zTw_of (i := 1019) (by decide +kernel) rfl, ⟨by decide +kernel, by decide +kernel, by decide +kernel⟩, by decide, (fun h => (by cases h)), (fun _ => ⟨zTw_of (i := 6220) (by decide +kernel) rfl, zTw_ofP (i := 77) (by decide +kernel) rfl⟩)⟩
def kX11_agree : mM := (yX11_agree, RX11, cX11_agree, 3, some .int, 1, 2)
theorem mkX11_agree : zMok kX11_agree := ⟨zTw_of (i := 6225) (by decide +kernel) rfl, zTw_of (i := 1019) (by decide +kernel) rfl, ⟨by decide +kernel, by decide +kernel, by decide +kernel⟩, by decide, (fun h => (by cases h)), (fun _ => ⟨zTw_of (i := 6223) (by decide +kernel) rfl, zTw_of (i := 6224) (by decide +kernel) rfl⟩)⟩
def kX11_tells : mM := (yX11_tells, RX11, cX11_tells, 11, some .int, 1, 3)
theorem mkX11_tells : zMok kX11_tells := ⟨zTw_of (i := 6229) (by decide +kernel) rfl, zTw_of (i := 1019) (by decide +kernel) rfl, ⟨by decide +kernel, by decide +kernel, by decide +kernel⟩, by decide, (fun h => (by cases h)), (fun _ => ⟨zTw_of (i := 6227) (by decide +kernel) rfl, zTw_of (i := 6228) (by decide +kernel) rfl⟩)⟩
def kX11_firstOther : mM := (yX11_firstOther, RX11, cX11_firstOther, 4, some .int, 1, 2)
theorem mkX11_firstOther : zMok kX11_firstOther := ⟨zTw_of (i := 6233) (by decide +kernel) rfl, zTw_of (i := 1019) (by decide +kernel) rfl, ⟨by decide +kernel, by decide +kernel, by decide +kernel⟩, by decide, (fun h => (by cases h)), (fun _ => ⟨zTw_of (i := 6232) (by decide +kernel) rfl, zTw_ofP (i := 78) (by decide +kernel) rfl⟩)⟩
def kX11_likeSet : mM := (yX11_likeSet, RX11, cX11_likeSet, 4, some .int, 1, 1)
theorem mkX11_likeSet : zMok kX11_likeSet := ⟨zTw_of (i := 6237) (by decide +kernel) rfl, zTw_of (i := 1019) (by decide +kernel) rfl, ⟨by decide +kernel, by decide +kernel, by decide +kernel⟩, by decide, (fun h => (by cases h)), (fun _ => ⟨zTw_of (i := 6236) (by decide +kernel) rfl, zTw_ofP (i := 79) (by decide +kernel) rfl⟩)⟩
def kX11_turnedSet : mM := (yX11_turnedSet, RX11, cX11_turnedSet, 5, some .int, 1, 2)
theorem mkX11_turnedSet : zMok kX11_turnedSet := ⟨zTw_of (i := 7001) (by decide +kernel) rfl, zTw_of (i := 1019) (by decide +kernel) rfl, ⟨by decide +kernel, by decide +kernel, by decide +kernel⟩, by decide, (fun h => (by cases h)), (fun _ => ⟨zTw_of (i := 7000) (by decide +kernel) rfl, zTw_ofP (i := 80) (by decide +kernel) rfl⟩)⟩
def kX11_film : mM := (yX11_film, RX11, cX11_film, 5, some .int, 1, 2)
theorem mkX11_film : zMok kX11_film := ⟨zTw_of (i := 7005) (by decide +kernel) rfl, zTw_of (i := 1019) (by decide +kernel) rfl, ⟨by decide +kernel, by decide +kernel, by decide +kernel⟩, by decide, (fun h => (by cases h)), (fun _ => ⟨zTw_of (i := 7003) (by decide +kernel) rfl, zTw_of (i := 7004) (by decide +kernel) rfl⟩)⟩
def kX11_sheet : mM := (yX11_sheet, RX11, cX11_sheet, 5, some .int, 1, 3)
theorem mkX11_sheet : zMok kX11_sheet := ⟨zTw_of (i := 7009) (by decide +kernel) rfl, zTw_of (i := 1019) (by decide +kernel) rfl, ⟨by decide +kernel, by decide +kernel, by decide +kernel⟩, by decide, (fun h => (by cases h)), (fun _ => ⟨zTw_of (i := 7007) (by decide +kernel) rfl, zTw_of (i := 7008) (by decide +kernel) rfl⟩)⟩
def kX11_drawn : mM := (yX11_drawn, RX11, cX11_drawn, 4, some .int, 1, 3)
theorem mkX11_drawn : zMok kX11_drawn := ⟨zTw_of (i := 7014) (by decide +kernel) rfl, zTw_of (i := 1019) (by decide +kernel) rfl, ⟨by decide +kernel, by decide +kernel, by decide +kernel⟩, by decide, (fun h => (by cases h)), (fun _ => ⟨zTw_of (i := 7012) (by decide +kernel) rfl, zTw_of (i := 7013) (by decide +kernel) rfl⟩)⟩
def kX11_laidDrawn : mM := (yX11_laidDrawn, RX11, cX11_laidDrawn, 7, some .int, 1, 3)
theorem mkX11_laidDrawn : zMok kX11_laidDrawn := ⟨zTw_of (i := 7018) (by decide +kernel) rfl, zTw_of (i := 1019) (by decide +kernel) rfl, ⟨by decide +kernel, by decide +kernel, by decide +kernel⟩, by decide, (fun h => (by cases h)), (fun _ => ⟨zTw_of (i := 7017) (by decide +kernel) rfl, zTw_ofP (i := 81) (by decide +kernel) rfl⟩)⟩
def kX11_chance : mM := (yX11_chance, RX11, cX11_chance, 9, some .long, 1, 5)
theorem mkX11_chance : zMok kX11_chance := ⟨zTw_of (i := 7023) (by decide +kernel) rfl, zTw_of (i := 1019) (by decide +kernel) rfl, ⟨by decide +kernel, by decide +kernel, by decide +kernel⟩, by decide, (fun h => (by cases h)), (fun _ => ⟨zTw_of (i := 7021) (by decide +kernel) rfl, zTw_of (i := 7022) (by decide +kernel) rfl⟩)⟩
def kX11_image : mM := (yX11_image, RX11, cX11_image, 2, some .int, 1, 0)
theorem mkX11_image : zMok kX11_image := ⟨zTw_of (i := 7029) (by decide +kernel) rfl, zTw_of (i := 1019) (by decide +kernel) rfl, ⟨by decide +kernel, by decide +kernel, by decide +kernel⟩, by decide, (fun h => (by cases h)), (fun _ => ⟨zTw_of (i := 7027) (by decide +kernel) rfl, zTw_of (i := 7028) (by decide +kernel) rfl⟩)⟩
def kX11_back : mM := (yX11_back, RX11, cX11_back, 2, some .int, 1, 0)
theorem mkX11_back : zMok kX11_back := ⟨zTw_of (i := 7033) (by decide +kernel) rfl, zTw_of (i := 1019) (by decide +kernel) rfl, ⟨by decide +kernel, by decide +kernel, by decide +kernel⟩, by decide, (fun h => (by cases h)), (fun _ => ⟨zTw_of (i := 7031) (by decide +kernel) rfl, zTw_of (i := 7032) (by decide +kernel) rfl⟩)⟩
def kX11_count : mM := (yX11_count, RX11, cX11_count, 4, some .int, 1, 1)
theorem mkX11_count : zMok kX11_count := ⟨zTw_of (i := 7037) (by decide +kernel) rfl, zTw_of (i := 1019) (by decide +kernel) rfl, ⟨by decide +kernel, by decide +kernel, by decide +kernel⟩, by decide, (fun h => (by cases h)), (fun _ => ⟨zTw_of (i := 7035) (by decide +kernel) rfl, zTw_of (i := 7036) (by decide +kernel) rfl⟩)⟩
def kX11_twos : mM := (yX11_twos, RX11, cX11_twos, 3, some .int, 1, 0)
theorem mkX11_twos : zMok kX11_twos := ⟨zTw_of (i := 7041) (by decide +kernel) rfl, zTw_of (i := 1019) (by decide +kernel) rfl, ⟨by decide +kernel, by decide +kernel, by decide +kernel⟩, by decide, (fun h => (by cases h)), (fun _ => ⟨zTw_of (i := 7040) (by decide +kernel) rfl, zTw_ofP (i := 82) (by decide +kernel) rfl⟩)⟩
def kX11_cell : mM := (yX11_cell, RX11, cX11_cell, 4, some .int, 1, 3)
theorem mkX11_cell : zMok kX11_cell := ⟨zTw_of (i := 7046) (by decide +kernel) rfl, zTw_of (i := 1019) (by decide +kernel) rfl, ⟨by decide +kernel, by decide +kernel, by decide +kernel⟩, by decide, (fun h => (by cases h)), (fun _ => ⟨zTw_of (i := 7044) (by decide +kernel) rfl, zTw_of (i := 7045) (by decide +kernel) rfl⟩)⟩
def kX11_copy : mM := (yX11_copy, RX11, cX11_copy, 9, some .int, 1, 5)
theorem mkX11_copy : zMok kX11_copy := ⟨zTw_of (i := 7050) (by decide +kernel) rfl, zTw_of (i := 1019) (by decide +kernel) rfl, ⟨by decide +kernel, by decide +kernel, by decide +kernel⟩, by decide, (fun h => (by cases h)), (fun _ => ⟨zTw_of (i := 7048) (by decide +kernel) rfl, zTw_of (i := 7049) (by decide +kernel) rfl⟩)⟩
def kX11_hens : mM := (yX11_hens, RX11, cX11_hens, 8, some .int, 1, 4)
theorem mkX11_hens : zMok kX11_hens := ⟨zTw_of (i := 7054) (by decide +kernel) rfl, zTw_of (i := 1019) (by decide +kernel) rfl, ⟨by decide +kernel, by decide +kernel, by decide +kernel⟩, by decide, (fun h => (by cases h)), (fun _ => ⟨zTw_of (i := 7052) (by decide +kernel) rfl, zTw_of (i := 7053) (by decide +kernel) rfl⟩)⟩
def kX11_taken : mM := (yX11_taken, RX11, cX11_taken, 4, some .int, 1, 2)
theorem mkX11_taken : zMok kX11_taken := ⟨zTw_of (i := 7059) (by decide +kernel) rfl, zTw_of (i := 1019) (by decide +kernel) rfl, ⟨by decide +kernel, by decide +kernel, by decide +kernel⟩, by decide, (fun h => (by cases h)), (fun _ => ⟨zTw_of (i := 7057) (by decide +kernel) rfl, zTw_of (i := 7058) (by decide +kernel) rfl⟩)⟩
def kX11_over : mM := (yX11_over, RX11, cX11_over, 1, some .int, 0, 1)
theorem mkX11_over : zMok kX11_over := ⟨zTw_of (i := 7062) (by decide +kernel) rfl, zTw_of (i := 1019) (by decide +kernel) rfl, ⟨by decide +kernel, by decide +kernel, by decide +kernel⟩, by decide, (fun _ => zTw_of (i := 7061) (by decide +kernel) rfl), (fun h => (by cases h))⟩
