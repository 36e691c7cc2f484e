/-! The methods: name, own class, bytes, locals, return type, kind, number of parameters; and what a caller needs of the tables. -/
def kX10_init : mM := (yX10_init, RX10, cX10_init, 2, none, 2, 0)
theorem mkX10_init : zMok kX10_init := ⟨zTw_of (i := 25) (by decide +kernel) rfl, zTw_of (i := 1) (by decide +kernel) rfl, ⟨by decide +kernel, by decide +kernel, by decide +kernel⟩, by decide, (fun h => (by cases h)), (fun h => (by cases h))⟩
def kX6_init : mM := (yX6_init, RX6, cX6_init, 1, none, 2, 0)
theorem mkX6_init : zMok kX6_init := ⟨zTw_of (i := 33) (by decide +kernel) rfl, zTw_of (i := 2) (by decide +kernel) rfl, ⟨by decide +kernel, by decide +kernel, by decide +kernel⟩, by decide, (fun h => (by cases h)), (fun h => (by cases h))⟩
def kX2_init : mM := (yX2_init, RX2, cX2_init, 2, none, 2, 1)
theorem mkX2_init : zMok kX2_init := ⟨zTw_of (i := 47) (by decide +kernel) rfl, zTw_of (i := 3) (by decide +kernel) rfl, ⟨by decide +kernel, by decide +kernel, by decide +kernel⟩, by decide, (fun h => (by cases h)), (fun h => (by cases h))⟩
def kX7_init : mM := (yX7_init, RX7, cX7_init, 1, none, 2, 0)
theorem mkX7_init : zMok kX7_init := ⟨zTw_of (i := 65) (by decide +kernel) rfl, zTw_of (i := 4) (by decide +kernel) rfl, ⟨by decide +kernel, by decide +kernel, by decide +kernel⟩, by decide, (fun h => (by cases h)), (fun h => (by cases h))⟩
def kX4_init : mM := (yX4_init, RX4, cX4_init, 1, none, 2, 0)
theorem mkX4_init : zMok kX4_init := ⟨zTw_of (i := 78) (by decide +kernel) rfl, zTw_of (i := 5) (by decide +kernel) rfl, ⟨by decide +kernel, by decide +kernel, by decide +kernel⟩, by decide, (fun h => (by cases h)), (fun h => (by cases h))⟩
def kX9_init : mM := (yX9_init, RX9, cX9_init, 1, none, 2, 0)
theorem mkX9_init : zMok kX9_init := ⟨zTw_of (i := 84) (by decide +kernel) rfl, zTw_of (i := 6) (by decide +kernel) rfl, ⟨by decide +kernel, by decide +kernel, by decide +kernel⟩, by decide, (fun h => (by cases h)), (fun h => (by cases h))⟩
def kX8_init : mM := (yX8_init, RX8, cX8_init, 1, none, 2, 0)
theorem mkX8_init : zMok kX8_init := ⟨zTw_of (i := 106) (by decide +kernel) rfl, zTw_of (i := 7) (by decide +kernel) rfl, ⟨by decide +kernel, by decide +kernel, by decide +kernel⟩, by decide, (fun h => (by cases h)), (fun h => (by cases h))⟩
def kX3_init : mM := (yX3_init, RX3, cX3_init, 2, none, 2, 1)
theorem mkX3_init : zMok kX3_init := ⟨zTw_of (i := 136) (by decide +kernel) rfl, zTw_of (i := 8) (by decide +kernel) rfl, ⟨by decide +kernel, by decide +kernel, by decide +kernel⟩, by decide, (fun h => (by cases h)), (fun h => (by cases h))⟩
def kX0_init : mM := (yX0_init, RX0, cX0_init, 1, none, 2, 0)
theorem mkX0_init : zMok kX0_init := ⟨zTw_of (i := 142) (by decide +kernel) rfl, zTw_of (i := 9) (by decide +kernel) rfl, ⟨by decide +kernel, by decide +kernel, by decide +kernel⟩, by decide, (fun h => (by cases h)), (fun h => (by cases h))⟩
def kX1_init : mM := (yX1_init, RX1, cX1_init, 2, none, 2, 0)
theorem mkX1_init : zMok kX1_init := ⟨zTw_of (i := 187) (by decide +kernel) rfl, zTw_of (i := 10) (by decide +kernel) rfl, ⟨by decide +kernel, by decide +kernel, by decide +kernel⟩, by decide, (fun h => (by cases h)), (fun h => (by cases h))⟩
def kX5_init : mM := (yX5_init, RX5, cX5_init, 1, none, 2, 0)
theorem mkX5_init : zMok kX5_init := ⟨zTw_of (i := 219) (by decide +kernel) rfl, zTw_of (i := 11) (by decide +kernel) rfl, ⟨by decide +kernel, by decide +kernel, by decide +kernel⟩, by decide, (fun h => (by cases h)), (fun h => (by cases h))⟩
def kJ0_length_8abf5 : mM := (yJ0_length_8abf5, RJ0, cJ0_length_8abf5, 1, some .int, 1, 0)
theorem mkJ0_length_8abf5 : zMok kJ0_length_8abf5 := ⟨zTw_of (i := 235) (by decide +kernel) rfl, zTw_of (i := 12) (by decide +kernel) rfl, ⟨by decide +kernel, by decide +kernel, by decide +kernel⟩, by decide, (fun h => (by cases h)), (fun _ => ⟨zTw_of (i := 233) (by decide +kernel) rfl, zTw_of (i := 234) (by decide +kernel) rfl⟩)⟩
def kJ0_coder_7d493 : mM := (yJ0_coder_7d493, RJ0, cJ0_coder_7d493, 1, some .byte, 1, 0)
theorem mkJ0_coder_7d493 : zMok kJ0_coder_7d493 := ⟨zTw_of (i := 239) (by decide +kernel) rfl, zTw_of (i := 12) (by decide +kernel) rfl, ⟨by decide +kernel, by decide +kernel, by decide +kernel⟩, by decide, (fun h => (by cases h)), (fun _ => ⟨zTw_of (i := 237) (by decide +kernel) rfl, zTw_of (i := 238) (by decide +kernel) rfl⟩)⟩
def kJ0_charAt_5068e : mM := (yJ0_charAt_5068e, RJ0, cJ0_charAt_5068e, 2, some .char, 1, 1)
theorem mkJ0_charAt_5068e : zMok kJ0_charAt_5068e := ⟨zTw_of (i := 245) (by decide +kernel) rfl, zTw_of (i := 12) (by decide +kernel) rfl, ⟨by decide +kernel, by decide +kernel, by decide +kernel⟩, by decide, (fun h => (by cases h)), (fun _ => ⟨zTw_of (i := 243) (by decide +kernel) rfl, zTw_of (i := 244) (by decide +kernel) rfl⟩)⟩
def kJ0_isLatin1_aae02 : mM := (yJ0_isLatin1_aae02, RJ0, cJ0_isLatin1_aae02, 1, some .boolean, 1, 0)
theorem mkJ0_isLatin1_aae02 : zMok kJ0_isLatin1_aae02 := ⟨zTw_of (i := 249) (by decide +kernel) rfl, zTw_of (i := 12) (by decide +kernel) rfl, ⟨by decide +kernel, by decide +kernel, by decide +kernel⟩, by decide, (fun h => (by cases h)), (fun _ => ⟨zTw_of (i := 247) (by decide +kernel) rfl, zTw_of (i := 248) (by decide +kernel) rfl⟩)⟩
def kJ1_charAt_3b067 : mM := (yJ1_charAt_3b067, RJ1, cJ1_charAt_3b067, 2, some .char, 0, 2)
theorem mkJ1_charAt_3b067 : zMok kJ1_charAt_3b067 := ⟨zTw_of (i := 252) (by decide +kernel) rfl, zTw_of (i := 13) (by decide +kernel) rfl, ⟨by decide +kernel, by decide +kernel, by decide +kernel⟩, by decide, (fun _ => zTw_of (i := 251) (by decide +kernel) rfl), (fun h => (by cases h))⟩
def kJ0_checkIndex_df160 : mM := (yJ0_checkIndex_df160, RJ0, cJ0_checkIndex_df160, 2, none, 0, 2)
theorem mkJ0_checkIndex_df160 : zMok kJ0_checkIndex_df160 := ⟨zTw_of (i := 255) (by decide +kernel) rfl, zTw_of (i := 12) (by decide +kernel) rfl, ⟨by decide +kernel, by decide +kernel, by decide +kernel⟩, by decide, (fun _ => zTw_of (i := 254) (by decide +kernel) rfl), (fun h => (by cases h))⟩
def kJ3_checkIndex_8e157 : mM := (yJ3_checkIndex_8e157, RJ3, cJ3_checkIndex_8e157, 3, some .int, 0, 3)
theorem mkJ3_checkIndex_8e157 : zMok kJ3_checkIndex_8e157 := ⟨zTw_of (i := 260) (by decide +kernel) rfl, zTw_of (i := 14) (by decide +kernel) rfl, ⟨by decide +kernel, by decide +kernel, by decide +kernel⟩, by decide, (fun _ => zTw_of (i := 259) (by decide +kernel) rfl), (fun h => (by cases h))⟩
def kJ2_charAt_3b067 : mM := (yJ2_charAt_3b067, RJ2, cJ2_charAt_3b067, 2, some .char, 0, 2)
theorem mkJ2_charAt_3b067 : zMok kJ2_charAt_3b067 := ⟨zTw_of (i := 263) (by decide +kernel) rfl, zTw_of (i := 15) (by decide +kernel) rfl, ⟨by decide +kernel, by decide +kernel, by decide +kernel⟩, by decide, (fun _ => zTw_of (i := 262) (by decide +kernel) rfl), (fun h => (by cases h))⟩
def kJ2_checkIndex_2214a : mM := (yJ2_checkIndex_2214a, RJ2, cJ2_checkIndex_2214a, 2, none, 0, 2)
theorem mkJ2_checkIndex_2214a : zMok kJ2_checkIndex_2214a := ⟨zTw_of (i := 266) (by decide +kernel) rfl, zTw_of (i := 15) (by decide +kernel) rfl, ⟨by decide +kernel, by decide +kernel, by decide +kernel⟩, by decide, (fun _ => zTw_of (i := 265) (by decide +kernel) rfl), (fun h => (by cases h))⟩
def kJ2_length_9d52b : mM := (yJ2_length_9d52b, RJ2, cJ2_length_9d52b, 1, some .int, 0, 1)
theorem mkJ2_length_9d52b : zMok kJ2_length_9d52b := ⟨zTw_of (i := 269) (by decide +kernel) rfl, zTw_of (i := 15) (by decide +kernel) rfl, ⟨by decide +kernel, by decide +kernel, by decide +kernel⟩, by decide, (fun _ => zTw_of (i := 268) (by decide +kernel) rfl), (fun h => (by cases h))⟩
def kJ2_getChar_3b067 : mM := (yJ2_getChar_3b067, RJ2, cJ2_getChar_3b067, 2, some .char, 0, 2)
theorem mkJ2_getChar_3b067 : zMok kJ2_getChar_3b067 := ⟨zTw_of (i := 273) (by decide +kernel) rfl, zTw_of (i := 15) (by decide +kernel) rfl, ⟨by decide +kernel, by decide +kernel, by decide +kernel⟩, by decide, (fun _ => zTw_of (i := 272) (by decide +kernel) rfl), (fun h => (by cases h))⟩
def kX7_add : mM := (yX7_add, RX7, cX7_add, 2, some .boolean, 1, 1)
theorem mkX7_add : zMok kX7_add := ⟨zTw_of (i := 283) (by decide +kernel) rfl, zTw_of (i := 4) (by decide +kernel) rfl, ⟨by decide +kernel, by decide +kernel, by decide +kernel⟩, by decide, (fun h => (by cases h)), (fun _ => ⟨zTw_of (i := 281) (by decide +kernel) rfl, zTw_of (i := 282) (by decide +kernel) rfl⟩)⟩
def kX10_text : mM := (yX10_text, RX10, cX10_text, 2, some .int, 1, 0)
theorem mkX10_text : zMok kX10_text := ⟨zTw_of (i := 287) (by decide +kernel) rfl, zTw_of (i := 1) (by decide +kernel) rfl, ⟨by decide +kernel, by decide +kernel, by decide +kernel⟩, by decide, (fun h => (by cases h)), (fun _ => ⟨zTw_of (i := 285) (by decide +kernel) rfl, zTw_of (i := 286) (by decide +kernel) rfl⟩)⟩
def kX4_read : mM := (yX4_read, RX4, cX4_read, 3, some .int, 1, 1)
theorem mkX4_read : zMok kX4_read := ⟨zTw_of (i := 291) (by decide +kernel) rfl, zTw_of (i := 5) (by decide +kernel) rfl, ⟨by decide +kernel, by decide +kernel, by decide +kernel⟩, by decide, (fun h => (by cases h)), (fun _ => ⟨zTw_of (i := 289) (by decide +kernel) rfl, zTw_of (i := 290) (by decide +kernel) rfl⟩)⟩
def kX9_split : mM := (yX9_split, RX9, cX9_split, 4, none, 1, 1)
theorem mkX9_split : zMok kX9_split := ⟨zTw_of (i := 295) (by decide +kernel) rfl, zTw_of (i := 6) (by decide +kernel) rfl, ⟨by decide +kernel, by decide +kernel, by decide +kernel⟩, by decide, (fun h => (by cases h)), (fun _ => ⟨zTw_of (i := 293) (by decide +kernel) rfl, zTw_of (i := 294) (by decide +kernel) rfl⟩)⟩
def kX7_size : mM := (yX7_size, RX7, cX7_size, 1, some .int, 1, 0)
theorem mkX7_size : zMok kX7_size := ⟨zTw_of (i := 299) (by decide +kernel) rfl, zTw_of (i := 4) (by decide +kernel) rfl, ⟨by decide +kernel, by decide +kernel, by decide +kernel⟩, by decide, (fun h => (by cases h)), (fun _ => ⟨zTw_of (i := 297) (by decide +kernel) rfl, zTw_of (i := 298) (by decide +kernel) rfl⟩)⟩
def kX9_take : mM := (yX9_take, RX9, cX9_take, 4, some .int, 1, 2)
theorem mkX9_take : zMok kX9_take := ⟨zTw_of (i := 303) (by decide +kernel) rfl, zTw_of (i := 6) (by decide +kernel) rfl, ⟨by decide +kernel, by decide +kernel, by decide +kernel⟩, by decide, (fun h => (by cases h)), (fun _ => ⟨zTw_of (i := 302) (by decide +kernel) rfl, zTw_ofL (i := 0) (by decide +kernel) rfl⟩)⟩
def kX7_byteAt : mM := (yX7_byteAt, RX7, cX7_byteAt, 2, some .int, 1, 1)
theorem mkX7_byteAt : zMok kX7_byteAt := ⟨zTw_of (i := 307) (by decide +kernel) rfl, zTw_of (i := 4) (by decide +kernel) rfl, ⟨by decide +kernel, by decide +kernel, by decide +kernel⟩, by decide, (fun h => (by cases h)), (fun _ => ⟨zTw_of (i := 305) (by decide +kernel) rfl, zTw_of (i := 306) (by decide +kernel) rfl⟩)⟩
def kX9_isLetter : mM := (yX9_isLetter, RX9, cX9_isLetter, 1, some .boolean, 0, 1)
theorem mkX9_isLetter : zMok kX9_isLetter := ⟨zTw_of (i := 310) (by decide +kernel) rfl, zTw_of (i := 6) (by decide +kernel) rfl, ⟨by decide +kernel, by decide +kernel, by decide +kernel⟩, by decide, (fun _ => zTw_of (i := 309) (by decide +kernel) rfl), (fun h => (by cases h))⟩
def kX9_takeWord : mM := (yX9_takeWord, RX9, cX9_takeWord, 6, some .int, 1, 2)
theorem mkX9_takeWord : zMok kX9_takeWord := ⟨zTw_of (i := 314) (by decide +kernel) rfl, zTw_of (i := 6) (by decide +kernel) rfl, ⟨by decide +kernel, by decide +kernel, by decide +kernel⟩, by decide, (fun h => (by cases h)), (fun _ => ⟨zTw_of (i := 313) (by decide +kernel) rfl, zTw_ofL (i := 1) (by decide +kernel) rfl⟩)⟩
def kX9_spelling : mM := (yX9_spelling, RX9, cX9_spelling, 1, some (.object "java/lang/String"), 0, 1)
theorem mkX9_spelling : zMok kX9_spelling := ⟨zTw_of (i := 317) (by decide +kernel) rfl, zTw_of (i := 6) (by decide +kernel) rfl, ⟨by decide +kernel, by decide +kernel, by decide +kernel⟩, by decide, (fun _ => zTw_of (i := 316) (by decide +kernel) rfl), (fun h => (by cases h))⟩
def kX7_spells : mM := (yX7_spells, RX7, cX7_spells, 5, some .boolean, 1, 3)
theorem mkX7_spells : zMok kX7_spells := ⟨zTw_of (i := 333) (by decide +kernel) rfl, zTw_of (i := 4) (by decide +kernel) rfl, ⟨by decide +kernel, by decide +kernel, by decide +kernel⟩, by decide, (fun h => (by cases h)), (fun _ => ⟨zTw_of (i := 331) (by decide +kernel) rfl, zTw_of (i := 332) (by decide +kernel) rfl⟩)⟩
def kX9_add : mM := (yX9_add, RX9, cX9_add, 4, none, 1, 3)
theorem mkX9_add : zMok kX9_add := ⟨zTw_of (i := 339) (by decide +kernel) rfl, zTw_of (i := 6) (by decide +kernel) rfl, ⟨by decide +kernel, by decide +kernel, by decide +kernel⟩, by decide, (fun h => (by cases h)), (fun _ => ⟨zTw_of (i := 338) (by decide +kernel) rfl, zTw_ofL (i := 2) (by decide +kernel) rfl⟩)⟩
def kX9_isDigit : mM := (yX9_isDigit, RX9, cX9_isDigit, 1, some .boolean, 0, 1)
theorem mkX9_isDigit : zMok kX9_isDigit := ⟨zTw_of (i := 342) (by decide +kernel) rfl, zTw_of (i := 6) (by decide +kernel) rfl, ⟨by decide +kernel, by decide +kernel, by decide +kernel⟩, by decide, (fun _ => zTw_of (i := 341) (by decide +kernel) rfl), (fun h => (by cases h))⟩
def kX9_takeNumber : mM := (yX9_takeNumber, RX9, cX9_takeNumber, 5, some .int, 1, 2)
theorem mkX9_takeNumber : zMok kX9_takeNumber := ⟨zTw_of (i := 346) (by decide +kernel) rfl, zTw_of (i := 6) (by decide +kernel) rfl, ⟨by decide +kernel, by decide +kernel, by decide +kernel⟩, by decide, (fun h => (by cases h)), (fun _ => ⟨zTw_of (i := 345) (by decide +kernel) rfl, zTw_ofL (i := 3) (by decide +kernel) rfl⟩)⟩
def kJ0_indexOf_0f7a4 : mM := (yJ0_indexOf_0f7a4, RJ0, cJ0_indexOf_0f7a4, 2, some .int, 1, 1)
theorem mkJ0_indexOf_0f7a4 : zMok kJ0_indexOf_0f7a4 := ⟨zTw_of (i := 351) (by decide +kernel) rfl, zTw_of (i := 12) (by decide +kernel) rfl, ⟨by decide +kernel, by decide +kernel, by decide +kernel⟩, by decide, (fun h => (by cases h)), (fun _ => ⟨zTw_of (i := 349) (by decide +kernel) rfl, zTw_of (i := 350) (by decide +kernel) rfl⟩)⟩
def kJ0_indexOf_7cf53 : mM := (yJ0_indexOf_7cf53, RJ0, cJ0_indexOf_7cf53, 3, some .int, 1, 2)
theorem mkJ0_indexOf_7cf53 : zMok kJ0_indexOf_7cf53 := ⟨zTw_of (i := 355) (by decide +kernel) rfl, zTw_of (i := 12) (by decide +kernel) rfl, ⟨by decide +kernel, by decide +kernel, by decide +kernel⟩, by decide, (fun h => (by cases h)), (fun _ => ⟨zTw_of (i := 353) (by decide +kernel) rfl, zTw_of (i := 354) (by decide +kernel) rfl⟩)⟩
def kJ1_indexOf_4cfef : mM := (yJ1_indexOf_4cfef, RJ1, cJ1_indexOf_4cfef, 4, some .int, 0, 4)
theorem mkJ1_indexOf_4cfef : zMok kJ1_indexOf_4cfef := ⟨zTw_of (i := 359) (by decide +kernel) rfl, zTw_of (i := 13) (by decide +kernel) rfl, ⟨by decide +kernel, by decide +kernel, by decide +kernel⟩, by decide, (fun _ => zTw_of (i := 358) (by decide +kernel) rfl), (fun h => (by cases h))⟩
def kJ1_canEncode_9a6ad : mM := (yJ1_canEncode_9a6ad, RJ1, cJ1_canEncode_9a6ad, 1, some .boolean, 0, 1)
theorem mkJ1_canEncode_9a6ad : zMok kJ1_canEncode_9a6ad := ⟨zTw_of (i := 362) (by decide +kernel) rfl, zTw_of (i := 13) (by decide +kernel) rfl, ⟨by decide +kernel, by decide +kernel, by decide +kernel⟩, by decide, (fun _ => zTw_of (i := 361) (by decide +kernel) rfl), (fun h => (by cases h))⟩
def kJ9_max_7cf53 : mM := (yJ9_max_7cf53, RJ9, cJ9_max_7cf53, 2, some .int, 0, 2)
theorem mkJ9_max_7cf53 : zMok kJ9_max_7cf53 := ⟨zTw_of (i := 365) (by decide +kernel) rfl, zTw_of (i := 16) (by decide +kernel) rfl, ⟨by decide +kernel, by decide +kernel, by decide +kernel⟩, by decide, (fun _ => zTw_of (i := 364) (by decide +kernel) rfl), (fun h => (by cases h))⟩
def kJ9_min_7cf53 : mM := (yJ9_min_7cf53, RJ9, cJ9_min_7cf53, 2, some .int, 0, 2)
theorem mkJ9_min_7cf53 : zMok kJ9_min_7cf53 := ⟨zTw_of (i := 368) (by decide +kernel) rfl, zTw_of (i := 16) (by decide +kernel) rfl, ⟨by decide +kernel, by decide +kernel, by decide +kernel⟩, by decide, (fun _ => zTw_of (i := 367) (by decide +kernel) rfl), (fun h => (by cases h))⟩
def kJ1_indexOfChar_4cfef : mM := (yJ1_indexOfChar_4cfef, RJ1, cJ1_indexOfChar_4cfef, 6, some .int, 0, 4)
theorem mkJ1_indexOfChar_4cfef : zMok kJ1_indexOfChar_4cfef := ⟨zTw_of (i := 371) (by decide +kernel) rfl, zTw_of (i := 13) (by decide +kernel) rfl, ⟨by decide +kernel, by decide +kernel, by decide +kernel⟩, by decide, (fun _ => zTw_of (i := 370) (by decide +kernel) rfl), (fun h => (by cases h))⟩
def kJ2_indexOf_4cfef : mM := (yJ2_indexOf_4cfef, RJ2, cJ2_indexOf_4cfef, 4, some .int, 0, 4)
theorem mkJ2_indexOf_4cfef : zMok kJ2_indexOf_4cfef := ⟨zTw_of (i := 374) (by decide +kernel) rfl, zTw_of (i := 15) (by decide +kernel) rfl, ⟨by decide +kernel, by decide +kernel, by decide +kernel⟩, by decide, (fun _ => zTw_of (i := 373) (by decide +kernel) rfl), (fun h => (by cases h))⟩
def kJ2_indexOfChar_4cfef : mM := (yJ2_indexOfChar_4cfef, RJ2, cJ2_indexOfChar_4cfef, 4, some .int, 0, 4)
theorem mkJ2_indexOfChar_4cfef : zMok kJ2_indexOfChar_4cfef := ⟨zTw_of (i := 380) (by decide +kernel) rfl, zTw_of (i := 15) (by decide +kernel) rfl, ⟨by decide +kernel, by decide +kernel, by decide +kernel⟩, by decide, (fun _ => zTw_of (i := 379) (by decide +kernel) rfl), (fun h => (by cases h))⟩
def kJ2_checkBoundsBeginEnd_d044e : mM := (yJ2_checkBoundsBeginEnd_d044e, RJ2, cJ2_checkBoundsBeginEnd_d044e, 3, none, 0, 3)
theorem mkJ2_checkBoundsBeginEnd_d044e : zMok kJ2_checkBoundsBeginEnd_d044e := ⟨zTw_of (i := 383) (by decide +kernel) rfl, zTw_of (i := 15) (by decide +kernel) rfl, ⟨by decide +kernel, by decide +kernel, by decide +kernel⟩, by decide, (fun _ => zTw_of (i := 382) (by decide +kernel) rfl), (fun h => (by cases h))⟩
def kJ0_checkBoundsBeginEnd_23922 : mM := (yJ0_checkBoundsBeginEnd_23922, RJ0, cJ0_checkBoundsBeginEnd_23922, 3, none, 0, 3)
theorem mkJ0_checkBoundsBeginEnd_23922 : zMok kJ0_checkBoundsBeginEnd_23922 := ⟨zTw_of (i := 386) (by decide +kernel) rfl, zTw_of (i := 12) (by decide +kernel) rfl, ⟨by decide +kernel, by decide +kernel, by decide +kernel⟩, by decide, (fun _ => zTw_of (i := 385) (by decide +kernel) rfl), (fun h => (by cases h))⟩
def kJ3_checkFromToIndex_8c36e : mM := (yJ3_checkFromToIndex_8c36e, RJ3, cJ3_checkFromToIndex_8c36e, 4, some .int, 0, 4)
theorem mkJ3_checkFromToIndex_8c36e : zMok kJ3_checkFromToIndex_8c36e := ⟨zTw_of (i := 389) (by decide +kernel) rfl, zTw_of (i := 14) (by decide +kernel) rfl, ⟨by decide +kernel, by decide +kernel, by decide +kernel⟩, by decide, (fun _ => zTw_of (i := 388) (by decide +kernel) rfl), (fun h => (by cases h))⟩
def kJ2_indexOfCharUnsafe_4cfef : mM := (yJ2_indexOfCharUnsafe_4cfef, RJ2, cJ2_indexOfCharUnsafe_4cfef, 5, some .int, 0, 4)
theorem mkJ2_indexOfCharUnsafe_4cfef : zMok kJ2_indexOfCharUnsafe_4cfef := ⟨zTw_of (i := 392) (by decide +kernel) rfl, zTw_of (i := 15) (by decide +kernel) rfl, ⟨by decide +kernel, by decide +kernel, by decide +kernel⟩, by decide, (fun _ => zTw_of (i := 391) (by decide +kernel) rfl), (fun h => (by cases h))⟩
def kJ2_indexOfSupplementary_4cfef : mM := (yJ2_indexOfSupplementary_4cfef, RJ2, cJ2_indexOfSupplementary_4cfef, 7, some .int, 0, 4)
theorem mkJ2_indexOfSupplementary_4cfef : zMok kJ2_indexOfSupplementary_4cfef := ⟨zTw_of (i := 395) (by decide +kernel) rfl, zTw_of (i := 15) (by decide +kernel) rfl, ⟨by decide +kernel, by decide +kernel, by decide +kernel⟩, by decide, (fun _ => zTw_of (i := 394) (by decide +kernel) rfl), (fun h => (by cases h))⟩
def kJ11_isValidCodePoint_9a6ad : mM := (yJ11_isValidCodePoint_9a6ad, RJ11, cJ11_isValidCodePoint_9a6ad, 2, some .boolean, 0, 1)
theorem mkJ11_isValidCodePoint_9a6ad : zMok kJ11_isValidCodePoint_9a6ad := ⟨zTw_of (i := 398) (by decide +kernel) rfl, zTw_of (i := 17) (by decide +kernel) rfl, ⟨by decide +kernel, by decide +kernel, by decide +kernel⟩, by decide, (fun _ => zTw_of (i := 397) (by decide +kernel) rfl), (fun h => (by cases h))⟩
def kJ11_highSurrogate_5068e : mM := (yJ11_highSurrogate_5068e, RJ11, cJ11_highSurrogate_5068e, 1, some .char, 0, 1)
theorem mkJ11_highSurrogate_5068e : zMok kJ11_highSurrogate_5068e := ⟨zTw_of (i := 401) (by decide +kernel) rfl, zTw_of (i := 17) (by decide +kernel) rfl, ⟨by decide +kernel, by decide +kernel, by decide +kernel⟩, by decide, (fun _ => zTw_of (i := 400) (by decide +kernel) rfl), (fun h => (by cases h))⟩
def kJ11_lowSurrogate_5068e : mM := (yJ11_lowSurrogate_5068e, RJ11, cJ11_lowSurrogate_5068e, 1, some .char, 0, 1)
theorem mkJ11_lowSurrogate_5068e : zMok kJ11_lowSurrogate_5068e := ⟨zTw_of (i := 405) (by decide +kernel) rfl, zTw_of (i := 17) (by decide +kernel) rfl, ⟨by decide +kernel, by decide +kernel, by decide +kernel⟩, by decide, (fun _ => zTw_of (i := 404) (by decide +kernel) rfl), (fun h => (by cases h))⟩
def kX8_clear : mM := (yX8_clear, RX8, cX8_clear, 1, none, 1, 0)
theorem mkX8_clear : zMok kX8_clear := ⟨zTw_of (i := 410) (by decide +kernel) rfl, zTw_of (i := 7) (by decide +kernel) rfl, ⟨by decide +kernel, by decide +kernel, by decide +kernel⟩, by decide, (fun h => (by cases h)), (fun _ => ⟨zTw_of (i := 408) (by decide +kernel) rfl, zTw_of (i := 409) (by decide +kernel) rfl⟩)⟩
def kX4_expect : mM := (yX4_expect, RX4, cX4_expect, 2, none, 1, 1)
theorem mkX4_expect : zMok kX4_expect := ⟨zTw_of (i := 414) (by decide +kernel) rfl, zTw_of (i := 5) (by decide +kernel) rfl, ⟨by decide +kernel, by decide +kernel, by decide +kernel⟩, by decide, (fun h => (by cases h)), (fun _ => ⟨zTw_of (i := 413) (by decide +kernel) rfl, zTw_ofL (i := 4) (by decide +kernel) rfl⟩)⟩
def kX4_isNext : mM := (yX4_isNext, RX4, cX4_isNext, 2, some .boolean, 1, 1)
theorem mkX4_isNext : zMok kX4_isNext := ⟨zTw_of (i := 418) (by decide +kernel) rfl, zTw_of (i := 5) (by decide +kernel) rfl, ⟨by decide +kernel, by decide +kernel, by decide +kernel⟩, by decide, (fun h => (by cases h)), (fun _ => ⟨zTw_of (i := 417) (by decide +kernel) rfl, zTw_ofL (i := 5) (by decide +kernel) rfl⟩)⟩
def kX9_sort : mM := (yX9_sort, RX9, cX9_sort, 1, some .int, 1, 0)
theorem mkX9_sort : zMok kX9_sort := ⟨zTw_of (i := 422) (by decide +kernel) rfl, zTw_of (i := 6) (by decide +kernel) rfl, ⟨by decide +kernel, by decide +kernel, by decide +kernel⟩, by decide, (fun h => (by cases h)), (fun _ => ⟨zTw_of (i := 420) (by decide +kernel) rfl, zTw_of (i := 421) (by decide +kernel) rfl⟩)⟩
def kX9_advance : mM := (yX9_advance, RX9, cX9_advance, 1, none, 1, 0)
theorem mkX9_advance : zMok kX9_advance := ⟨zTw_of (i := 426) (by decide +kernel) rfl, zTw_of (i := 6) (by decide +kernel) rfl, ⟨by decide +kernel, by decide +kernel, by decide +kernel⟩, by decide, (fun h => (by cases h)), (fun _ => ⟨zTw_of (i := 424) (by decide +kernel) rfl, zTw_of (i := 425) (by decide +kernel) rfl⟩)⟩
def kX4_fail : mM := (yX4_fail, RX4, cX4_fail, 1, none, 1, 0)
theorem mkX4_fail : zMok kX4_fail := ⟨zTw_of (i := 430) (by decide +kernel) rfl, zTw_of (i := 5) (by decide +kernel) rfl, ⟨by decide +kernel, by decide +kernel, by decide +kernel⟩, by decide, (fun h => (by cases h)), (fun _ => ⟨zTw_of (i := 429) (by decide +kernel) rfl, zTw_ofL (i := 6) (by decide +kernel) rfl⟩)⟩
def kX9_place : mM := (yX9_place, RX9, cX9_place, 1, some .int, 1, 0)
theorem mkX9_place : zMok kX9_place := ⟨zTw_of (i := 434) (by decide +kernel) rfl, zTw_of (i := 6) (by decide +kernel) rfl, ⟨by decide +kernel, by decide +kernel, by decide +kernel⟩, by decide, (fun h => (by cases h)), (fun _ => ⟨zTw_of (i := 432) (by decide +kernel) rfl, zTw_of (i := 433) (by decide +kernel) rfl⟩)⟩
def kX4_readEither : mM := (yX4_readEither, RX4, cX4_readEither, 3, none, 1, 1)
theorem mkX4_readEither : zMok kX4_readEither := ⟨zTw_of (i := 438) (by decide +kernel) rfl, zTw_of (i := 5) (by decide +kernel) rfl, ⟨by decide +kernel, by decide +kernel, by decide +kernel⟩, by decide, (fun h => (by cases h)), (fun _ => ⟨zTw_of (i := 437) (by decide +kernel) rfl, zTw_ofL (i := 7) (by decide +kernel) rfl⟩)⟩
def kX4_readBoth : mM := (yX4_readBoth, RX4, cX4_readBoth, 3, none, 1, 1)
theorem mkX4_readBoth : zMok kX4_readBoth := ⟨zTw_of (i := 442) (by decide +kernel) rfl, zTw_of (i := 5) (by decide +kernel) rfl, ⟨by decide +kernel, by decide +kernel, by decide +kernel⟩, by decide, (fun h => (by cases h)), (fun _ => ⟨zTw_of (i := 441) (by decide +kernel) rfl, zTw_ofL (i := 8) (by decide +kernel) rfl⟩)⟩
def kX4_readTruth : mM := (yX4_readTruth, RX4, cX4_readTruth, 4, none, 1, 1)
theorem mkX4_readTruth : zMok kX4_readTruth := ⟨zTw_of (i := 446) (by decide +kernel) rfl, zTw_of (i := 5) (by decide +kernel) rfl, ⟨by decide +kernel, by decide +kernel, by decide +kernel⟩, by decide, (fun h => (by cases h)), (fun _ => ⟨zTw_of (i := 445) (by decide +kernel) rfl, zTw_ofL (i := 9) (by decide +kernel) rfl⟩)⟩
def kX4_isOpened : mM := (yX4_isOpened, RX4, cX4_isOpened, 3, some .boolean, 1, 2)
theorem mkX4_isOpened : zMok kX4_isOpened := ⟨zTw_of (i := 450) (by decide +kernel) rfl, zTw_of (i := 5) (by decide +kernel) rfl, ⟨by decide +kernel, by decide +kernel, by decide +kernel⟩, by decide, (fun h => (by cases h)), (fun _ => ⟨zTw_of (i := 449) (by decide +kernel) rfl, zTw_ofL (i := 10) (by decide +kernel) rfl⟩)⟩
def kX4_readCompared : mM := (yX4_readCompared, RX4, cX4_readCompared, 3, none, 1, 1)
theorem mkX4_readCompared : zMok kX4_readCompared := ⟨zTw_of (i := 454) (by decide +kernel) rfl, zTw_of (i := 5) (by decide +kernel) rfl, ⟨by decide +kernel, by decide +kernel, by decide +kernel⟩, by decide, (fun h => (by cases h)), (fun _ => ⟨zTw_of (i := 453) (by decide +kernel) rfl, zTw_ofL (i := 11) (by decide +kernel) rfl⟩)⟩
def kX4_readSum : mM := (yX4_readSum, RX4, cX4_readSum, 4, none, 1, 1)
theorem mkX4_readSum : zMok kX4_readSum := ⟨zTw_of (i := 458) (by decide +kernel) rfl, zTw_of (i := 5) (by decide +kernel) rfl, ⟨by decide +kernel, by decide +kernel, by decide +kernel⟩, by decide, (fun h => (by cases h)), (fun _ => ⟨zTw_of (i := 457) (by decide +kernel) rfl, zTw_ofL (i := 12) (by decide +kernel) rfl⟩)⟩
def kX4_readTerm : mM := (yX4_readTerm, RX4, cX4_readTerm, 3, none, 1, 1)
theorem mkX4_readTerm : zMok kX4_readTerm := ⟨zTw_of (i := 462) (by decide +kernel) rfl, zTw_of (i := 5) (by decide +kernel) rfl, ⟨by decide +kernel, by decide +kernel, by decide +kernel⟩, by decide, (fun h => (by cases h)), (fun _ => ⟨zTw_of (i := 461) (by decide +kernel) rfl, zTw_ofL (i := 13) (by decide +kernel) rfl⟩)⟩
def kX4_readOne : mM := (yX4_readOne, RX4, cX4_readOne, 4, none, 1, 1)
theorem mkX4_readOne : zMok kX4_readOne := ⟨zTw_of (i := 466) (by decide +kernel) rfl, zTw_of (i := 5) (by decide +kernel) rfl, ⟨by decide +kernel, by decide +kernel, by decide +kernel⟩, by decide, (fun h => (by cases h)), (fun _ => ⟨zTw_of (i := 465) (by decide +kernel) rfl, zTw_ofL (i := 14) (by decide +kernel) rfl⟩)⟩
def kX4_readSimple : mM := (yX4_readSimple, RX4, cX4_readSimple, 2, none, 1, 1)
theorem mkX4_readSimple : zMok kX4_readSimple := ⟨zTw_of (i := 470) (by decide +kernel) rfl, zTw_of (i := 5) (by decide +kernel) rfl, ⟨by decide +kernel, by decide +kernel, by decide +kernel⟩, by decide, (fun h => (by cases h)), (fun _ => ⟨zTw_of (i := 469) (by decide +kernel) rfl, zTw_ofL (i := 15) (by decide +kernel) rfl⟩)⟩
def kX9_value : mM := (yX9_value, RX9, cX9_value, 1, some .int, 1, 0)
theorem mkX9_value : zMok kX9_value := ⟨zTw_of (i := 474) (by decide +kernel) rfl, zTw_of (i := 6) (by decide +kernel) rfl, ⟨by decide +kernel, by decide +kernel, by decide +kernel⟩, by decide, (fun h => (by cases h)), (fun _ => ⟨zTw_of (i := 472) (by decide +kernel) rfl, zTw_of (i := 473) (by decide +kernel) rfl⟩)⟩
def kX8_add : mM := (yX8_add, RX8, cX8_add, 2, none, 1, 1)
theorem mkX8_add : zMok kX8_add := ⟨zTw_of (i := 478) (by decide +kernel) rfl, zTw_of (i := 7) (by decide +kernel) rfl, ⟨by decide +kernel, by decide +kernel, by decide +kernel⟩, by decide, (fun h => (by cases h)), (fun _ => ⟨zTw_of (i := 476) (by decide +kernel) rfl, zTw_of (i := 477) (by decide +kernel) rfl⟩)⟩
def kX8_endPart : mM := (yX8_endPart, RX8, cX8_endPart, 2, none, 1, 1)
theorem mkX8_endPart : zMok kX8_endPart := ⟨zTw_of (i := 482) (by decide +kernel) rfl, zTw_of (i := 7) (by decide +kernel) rfl, ⟨by decide +kernel, by decide +kernel, by decide +kernel⟩, by decide, (fun h => (by cases h)), (fun _ => ⟨zTw_of (i := 480) (by decide +kernel) rfl, zTw_of (i := 481) (by decide +kernel) rfl⟩)⟩
def kX7_empty : mM := (yX7_empty, RX7, cX7_empty, 1, none, 1, 0)
theorem mkX7_empty : zMok kX7_empty := ⟨zTw_of (i := 486) (by decide +kernel) rfl, zTw_of (i := 4) (by decide +kernel) rfl, ⟨by decide +kernel, by decide +kernel, by decide +kernel⟩, by decide, (fun h => (by cases h)), (fun _ => ⟨zTw_of (i := 484) (by decide +kernel) rfl, zTw_of (i := 485) (by decide +kernel) rfl⟩)⟩
def kX4_draft : mM := (yX4_draft, RX4, cX4_draft, 1, some (.object "LaidByArgument$Text"), 1, 0)
theorem mkX4_draft : zMok kX4_draft := ⟨zTw_of (i := 490) (by decide +kernel) rfl, zTw_of (i := 5) (by decide +kernel) rfl, ⟨by decide +kernel, by decide +kernel, by decide +kernel⟩, by decide, (fun h => (by cases h)), (fun _ => ⟨zTw_of (i := 488) (by decide +kernel) rfl, zTw_of (i := 489) (by decide +kernel) rfl⟩)⟩
def kX8_become : mM := (yX8_become, RX8, cX8_become, 2, none, 1, 1)
theorem mkX8_become : zMok kX8_become := ⟨zTw_of (i := 494) (by decide +kernel) rfl, zTw_of (i := 7) (by decide +kernel) rfl, ⟨by decide +kernel, by decide +kernel, by decide +kernel⟩, by decide, (fun h => (by cases h)), (fun _ => ⟨zTw_of (i := 492) (by decide +kernel) rfl, zTw_of (i := 493) (by decide +kernel) rfl⟩)⟩
def kX10_against : mM := (yX10_against, RX10, cX10_against, 5, some .int, 1, 3)
theorem mkX10_against : zMok kX10_against := ⟨zTw_of (i := 545) (by decide +kernel) rfl, zTw_of (i := 1) (by decide +kernel) rfl, ⟨by decide +kernel, by decide +kernel, by decide +kernel⟩, by decide, (fun h => (by cases h)), (fun _ => ⟨zTw_of (i := 543) (by decide +kernel) rfl, zTw_of (i := 544) (by decide +kernel) rfl⟩)⟩
def kX10_isArgument : mM := (yX10_isArgument, RX10, cX10_isArgument, 1, some .boolean, 0, 1)
theorem mkX10_isArgument : zMok kX10_isArgument := ⟨zTw_of (i := 548) (by decide +kernel) rfl, zTw_of (i := 1) (by decide +kernel) rfl, ⟨by decide +kernel, by decide +kernel, by decide +kernel⟩, by decide, (fun _ => zTw_of (i := 547) (by decide +kernel) rfl), (fun h => (by cases h))⟩
def kX10_isFrom0To : mM := (yX10_isFrom0To, RX10, cX10_isFrom0To, 2, some .boolean, 0, 2)
theorem mkX10_isFrom0To : zMok kX10_isFrom0To := ⟨zTw_of (i := 551) (by decide +kernel) rfl, zTw_of (i := 1) (by decide +kernel) rfl, ⟨by decide +kernel, by decide +kernel, by decide +kernel⟩, by decide, (fun _ => zTw_of (i := 550) (by decide +kernel) rfl), (fun h => (by cases h))⟩
def kX6_struckBy : mM := (yX6_struckBy, RX6, cX6_struckBy, 2, some .int, 1, 1)
theorem mkX6_struckBy : zMok kX6_struckBy := ⟨zTw_of (i := 555) (by decide +kernel) rfl, zTw_of (i := 2) (by decide +kernel) rfl, ⟨by decide +kernel, by decide +kernel, by decide +kernel⟩, by decide, (fun h => (by cases h)), (fun _ => ⟨zTw_of (i := 553) (by decide +kernel) rfl, zTw_of (i := 554) (by decide +kernel) rfl⟩)⟩
def kX10_has : mM := (yX10_has, RX10, cX10_has, 2, some .boolean, 0, 2)
theorem mkX10_has : zMok kX10_has := ⟨zTw_of (i := 558) (by decide +kernel) rfl, zTw_of (i := 1) (by decide +kernel) rfl, ⟨by decide +kernel, by decide +kernel, by decide +kernel⟩, by decide, (fun _ => zTw_of (i := 557) (by decide +kernel) rfl), (fun h => (by cases h))⟩
def kX6_change : mM := (yX6_change, RX6, cX6_change, 4, none, 1, 3)
theorem mkX6_change : zMok kX6_change := ⟨zTw_of (i := 562) (by decide +kernel) rfl, zTw_of (i := 2) (by decide +kernel) rfl, ⟨by decide +kernel, by decide +kernel, by decide +kernel⟩, by decide, (fun h => (by cases h)), (fun _ => ⟨zTw_of (i := 560) (by decide +kernel) rfl, zTw_of (i := 561) (by decide +kernel) rfl⟩)⟩
def kX10_set : mM := (yX10_set, RX10, cX10_set, 6, some .int, 1, 3)
theorem mkX10_set : zMok kX10_set := ⟨zTw_of (i := 567) (by decide +kernel) rfl, zTw_of (i := 1) (by decide +kernel) rfl, ⟨by decide +kernel, by decide +kernel, by decide +kernel⟩, by decide, (fun h => (by cases h)), (fun _ => ⟨zTw_of (i := 565) (by decide +kernel) rfl, zTw_of (i := 566) (by decide +kernel) rfl⟩)⟩
def kX10_mostOf : mM := (yX10_mostOf, RX10, cX10_mostOf, 1, some .int, 0, 1)
theorem mkX10_mostOf : zMok kX10_mostOf := ⟨zTw_of (i := 570) (by decide +kernel) rfl, zTw_of (i := 1) (by decide +kernel) rfl, ⟨by decide +kernel, by decide +kernel, by decide +kernel⟩, by decide, (fun _ => zTw_of (i := 569) (by decide +kernel) rfl), (fun h => (by cases h))⟩
def kX10_told : mM := (yX10_told, RX10, cX10_told, 4, some .int, 1, 2)
theorem mkX10_told : zMok kX10_told := ⟨zTw_of (i := 574) (by decide +kernel) rfl, zTw_of (i := 1) (by decide +kernel) rfl, ⟨by decide +kernel, by decide +kernel, by decide +kernel⟩, by decide, (fun h => (by cases h)), (fun _ => ⟨zTw_of (i := 572) (by decide +kernel) rfl, zTw_of (i := 573) (by decide +kernel) rfl⟩)⟩
def kX10_toldOfArgument : mM := (yX10_toldOfArgument, RX10, cX10_toldOfArgument, 3, some .int, 1, 2)
theorem mkX10_toldOfArgument : zMok kX10_toldOfArgument := ⟨zTw_of (i := 578) (by decide +kernel) rfl, zTw_of (i := 1) (by decide +kernel) rfl, ⟨by decide +kernel, by decide +kernel, by decide +kernel⟩, by decide, (fun h => (by cases h)), (fun _ => ⟨zTw_of (i := 577) (by decide +kernel) rfl, zTw_ofL (i := 16) (by decide +kernel) rfl⟩)⟩
def kX6_strikersOf : mM := (yX6_strikersOf, RX6, cX6_strikersOf, 2, some .int, 1, 1)
theorem mkX6_strikersOf : zMok kX6_strikersOf := ⟨zTw_of (i := 582) (by decide +kernel) rfl, zTw_of (i := 2) (by decide +kernel) rfl, ⟨by decide +kernel, by decide +kernel, by decide +kernel⟩, by decide, (fun h => (by cases h)), (fun _ => ⟨zTw_of (i := 580) (by decide +kernel) rfl, zTw_of (i := 581) (by decide +kernel) rfl⟩)⟩
def kX10_henAt : mM := (yX10_henAt, RX10, cX10_henAt, 2, some (.object "LaidByArgument$Hen"), 1, 1)
theorem mkX10_henAt : zMok kX10_henAt := ⟨zTw_of (i := 586) (by decide +kernel) rfl, zTw_of (i := 1) (by decide +kernel) rfl, ⟨by decide +kernel, by decide +kernel, by decide +kernel⟩, by decide, (fun h => (by cases h)), (fun _ => ⟨zTw_of (i := 585) (by decide +kernel) rfl, zTw_ofL (i := 17) (by decide +kernel) rfl⟩)⟩
def kX10_rule : mM := (yX10_rule, RX10, cX10_rule, 1, some (.object "LaidByArgument$Text"), 1, 0)
theorem mkX10_rule : zMok kX10_rule := ⟨zTw_of (i := 590) (by decide +kernel) rfl, zTw_of (i := 1) (by decide +kernel) rfl, ⟨by decide +kernel, by decide +kernel, by decide +kernel⟩, by decide, (fun h => (by cases h)), (fun _ => ⟨zTw_of (i := 589) (by decide +kernel) rfl, zTw_ofL (i := 18) (by decide +kernel) rfl⟩)⟩
def kX2_droppedBy : mM := (yX2_droppedBy, RX2, cX2_droppedBy, 6, some .int, 1, 3)
theorem mkX2_droppedBy : zMok kX2_droppedBy := ⟨zTw_of (i := 594) (by decide +kernel) rfl, zTw_of (i := 3) (by decide +kernel) rfl, ⟨by decide +kernel, by decide +kernel, by decide +kernel⟩, by decide, (fun h => (by cases h)), (fun _ => ⟨zTw_of (i := 592) (by decide +kernel) rfl, zTw_of (i := 593) (by decide +kernel) rfl⟩)⟩
def kX2_isDropping : mM := (yX2_isDropping, RX2, cX2_isDropping, 5, some .boolean, 1, 4)
theorem mkX2_isDropping : zMok kX2_isDropping := ⟨zTw_of (i := 599) (by decide +kernel) rfl, zTw_of (i := 3) (by decide +kernel) rfl, ⟨by decide +kernel, by decide +kernel, by decide +kernel⟩, by decide, (fun h => (by cases h)), (fun _ => ⟨zTw_of (i := 597) (by decide +kernel) rfl, zTw_of (i := 598) (by decide +kernel) rfl⟩)⟩
def kX2_toldBy : mM := (yX2_toldBy, RX2, cX2_toldBy, 6, some .int, 1, 5)
theorem mkX2_toldBy : zMok kX2_toldBy := ⟨zTw_of (i := 603) (by decide +kernel) rfl, zTw_of (i := 3) (by decide +kernel) rfl, ⟨by decide +kernel, by decide +kernel, by decide +kernel⟩, by decide, (fun h => (by cases h)), (fun _ => ⟨zTw_of (i := 602) (by decide +kernel) rfl, zTw_ofL (i := 19) (by decide +kernel) rfl⟩)⟩
def kX2_objectors : mM := (yX2_objectors, RX2, cX2_objectors, 3, some .int, 1, 2)
theorem mkX2_objectors : zMok kX2_objectors := ⟨zTw_of (i := 607) (by decide +kernel) rfl, zTw_of (i := 3) (by decide +kernel) rfl, ⟨by decide +kernel, by decide +kernel, by decide +kernel⟩, by decide, (fun h => (by cases h)), (fun _ => ⟨zTw_of (i := 605) (by decide +kernel) rfl, zTw_of (i := 606) (by decide +kernel) rfl⟩)⟩
def kJ6_bitCount_0f7a4 : mM := (yJ6_bitCount_0f7a4, RJ6, cJ6_bitCount_0f7a4, 1, some .int, 0, 1)
theorem mkJ6_bitCount_0f7a4 : zMok kJ6_bitCount_0f7a4 := ⟨zTw_of (i := 611) (by decide +kernel) rfl, zTw_of (i := 20) (by decide +kernel) rfl, ⟨by decide +kernel, by decide +kernel, by decide +kernel⟩, by decide, (fun _ => zTw_of (i := 610) (by decide +kernel) rfl), (fun h => (by cases h))⟩
def kX8_worth : mM := (yX8_worth, RX8, cX8_worth, 8, some .int, 1, 3)
theorem mkX8_worth : zMok kX8_worth := ⟨zTw_of (i := 618) (by decide +kernel) rfl, zTw_of (i := 7) (by decide +kernel) rfl, ⟨by decide +kernel, by decide +kernel, by decide +kernel⟩, by decide, (fun h => (by cases h)), (fun _ => ⟨zTw_of (i := 616) (by decide +kernel) rfl, zTw_of (i := 617) (by decide +kernel) rfl⟩)⟩
def kX8_isValue : mM := (yX8_isValue, RX8, cX8_isValue, 1, some .boolean, 0, 1)
theorem mkX8_isValue : zMok kX8_isValue := ⟨zTw_of (i := 621) (by decide +kernel) rfl, zTw_of (i := 7) (by decide +kernel) rfl, ⟨by decide +kernel, by decide +kernel, by decide +kernel⟩, by decide, (fun _ => zTw_of (i := 620) (by decide +kernel) rfl), (fun h => (by cases h))⟩
def kX8_valueOf : mM := (yX8_valueOf, RX8, cX8_valueOf, 2, some .int, 0, 2)
theorem mkX8_valueOf : zMok kX8_valueOf := ⟨zTw_of (i := 624) (by decide +kernel) rfl, zTw_of (i := 7) (by decide +kernel) rfl, ⟨by decide +kernel, by decide +kernel, by decide +kernel⟩, by decide, (fun _ => zTw_of (i := 623) (by decide +kernel) rfl), (fun h => (by cases h))⟩
def kX8_ofOne : mM := (yX8_ofOne, RX8, cX8_ofOne, 2, some .int, 0, 2)
theorem mkX8_ofOne : zMok kX8_ofOne := ⟨zTw_of (i := 627) (by decide +kernel) rfl, zTw_of (i := 7) (by decide +kernel) rfl, ⟨by decide +kernel, by decide +kernel, by decide +kernel⟩, by decide, (fun _ => zTw_of (i := 626) (by decide +kernel) rfl), (fun h => (by cases h))⟩
def kX8_ofTwo : mM := (yX8_ofTwo, RX8, cX8_ofTwo, 3, some .int, 0, 3)
theorem mkX8_ofTwo : zMok kX8_ofTwo := ⟨zTw_of (i := 630) (by decide +kernel) rfl, zTw_of (i := 7) (by decide +kernel) rfl, ⟨by decide +kernel, by decide +kernel, by decide +kernel⟩, by decide, (fun _ => zTw_of (i := 629) (by decide +kernel) rfl), (fun h => (by cases h))⟩
def kX10_hen : mM := (yX10_hen, RX10, cX10_hen, 3, some .int, 1, 2)
theorem mkX10_hen : zMok kX10_hen := ⟨zTw_of (i := 634) (by decide +kernel) rfl, zTw_of (i := 1) (by decide +kernel) rfl, ⟨by decide +kernel, by decide +kernel, by decide +kernel⟩, by decide, (fun h => (by cases h)), (fun _ => ⟨zTw_of (i := 632) (by decide +kernel) rfl, zTw_of (i := 633) (by decide +kernel) rfl⟩)⟩
def kX10_isKind : mM := (yX10_isKind, RX10, cX10_isKind, 1, some .boolean, 0, 1)
theorem mkX10_isKind : zMok kX10_isKind := ⟨zTw_of (i := 637) (by decide +kernel) rfl, zTw_of (i := 1) (by decide +kernel) rfl, ⟨by decide +kernel, by decide +kernel, by decide +kernel⟩, by decide, (fun _ => zTw_of (i := 636) (by decide +kernel) rfl), (fun h => (by cases h))⟩
def kX0_come : mM := (yX0_come, RX0, cX0_come, 3, none, 1, 2)
theorem mkX0_come : zMok kX0_come := ⟨zTw_of (i := 641) (by decide +kernel) rfl, zTw_of (i := 9) (by decide +kernel) rfl, ⟨by decide +kernel, by decide +kernel, by decide +kernel⟩, by decide, (fun h => (by cases h)), (fun _ => ⟨zTw_of (i := 639) (by decide +kernel) rfl, zTw_of (i := 640) (by decide +kernel) rfl⟩)⟩
def kX10_asks : mM := (yX10_asks, RX10, cX10_asks, 5, some .int, 1, 3)
theorem mkX10_asks : zMok kX10_asks := ⟨zTw_of (i := 646) (by decide +kernel) rfl, zTw_of (i := 1) (by decide +kernel) rfl, ⟨by decide +kernel, by decide +kernel, by decide +kernel⟩, by decide, (fun h => (by cases h)), (fun _ => ⟨zTw_of (i := 644) (by decide +kernel) rfl, zTw_of (i := 645) (by decide +kernel) rfl⟩)⟩
def kX2_laidBy : mM := (yX2_laidBy, RX2, cX2_laidBy, 8, some .int, 1, 4)
theorem mkX2_laidBy : zMok kX2_laidBy := ⟨zTw_of (i := 651) (by decide +kernel) rfl, zTw_of (i := 3) (by decide +kernel) rfl, ⟨by decide +kernel, by decide +kernel, by decide +kernel⟩, by decide, (fun h => (by cases h)), (fun _ => ⟨zTw_of (i := 649) (by decide +kernel) rfl, zTw_of (i := 650) (by decide +kernel) rfl⟩)⟩
def kX2_bounded : mM := (yX2_bounded, RX2, cX2_bounded, 1, some .int, 0, 1)
theorem mkX2_bounded : zMok kX2_bounded := ⟨zTw_of (i := 654) (by decide +kernel) rfl, zTw_of (i := 3) (by decide +kernel) rfl, ⟨by decide +kernel, by decide +kernel, by decide +kernel⟩, by decide, (fun _ => zTw_of (i := 653) (by decide +kernel) rfl), (fun h => (by cases h))⟩
def kX2_isYielding : mM := (yX2_isYielding, RX2, cX2_isYielding, 7, some .boolean, 1, 4)
theorem mkX2_isYielding : zMok kX2_isYielding := ⟨zTw_of (i := 660) (by decide +kernel) rfl, zTw_of (i := 3) (by decide +kernel) rfl, ⟨by decide +kernel, by decide +kernel, by decide +kernel⟩, by decide, (fun h => (by cases h)), (fun _ => ⟨zTw_of (i := 658) (by decide +kernel) rfl, zTw_of (i := 659) (by decide +kernel) rfl⟩)⟩
def kX10_feed : mM := (yX10_feed, RX10, cX10_feed, 2, some .int, 1, 1)
theorem mkX10_feed : zMok kX10_feed := ⟨zTw_of (i := 665) (by decide +kernel) rfl, zTw_of (i := 1) (by decide +kernel) rfl, ⟨by decide +kernel, by decide +kernel, by decide +kernel⟩, by decide, (fun h => (by cases h)), (fun _ => ⟨zTw_of (i := 663) (by decide +kernel) rfl, zTw_of (i := 664) (by decide +kernel) rfl⟩)⟩
def kX10_force : mM := (yX10_force, RX10, cX10_force, 3, some .int, 1, 1)
theorem mkX10_force : zMok kX10_force := ⟨zTw_of (i := 671) (by decide +kernel) rfl, zTw_of (i := 1) (by decide +kernel) rfl, ⟨by decide +kernel, by decide +kernel, by decide +kernel⟩, by decide, (fun h => (by cases h)), (fun _ => ⟨zTw_of (i := 669) (by decide +kernel) rfl, zTw_of (i := 670) (by decide +kernel) rfl⟩)⟩
def kX10_argue : mM := (yX10_argue, RX10, cX10_argue, 4, some .int, 1, 2)
theorem mkX10_argue : zMok kX10_argue := ⟨zTw_of (i := 675) (by decide +kernel) rfl, zTw_of (i := 1) (by decide +kernel) rfl, ⟨by decide +kernel, by decide +kernel, by decide +kernel⟩, by decide, (fun h => (by cases h)), (fun _ => ⟨zTw_of (i := 673) (by decide +kernel) rfl, zTw_of (i := 674) (by decide +kernel) rfl⟩)⟩
def kX2_put : mM := (yX2_put, RX2, cX2_put, 7, some .int, 1, 4)
theorem mkX2_put : zMok kX2_put := ⟨zTw_of (i := 679) (by decide +kernel) rfl, zTw_of (i := 3) (by decide +kernel) rfl, ⟨by decide +kernel, by decide +kernel, by decide +kernel⟩, by decide, (fun h => (by cases h)), (fun _ => ⟨zTw_of (i := 677) (by decide +kernel) rfl, zTw_of (i := 678) (by decide +kernel) rfl⟩)⟩
def kX10_night : mM := (yX10_night, RX10, cX10_night, 3, some .int, 1, 0)
theorem mkX10_night : zMok kX10_night := ⟨zTw_of (i := 686) (by decide +kernel) rfl, zTw_of (i := 1) (by decide +kernel) rfl, ⟨by decide +kernel, by decide +kernel, by decide +kernel⟩, by decide, (fun h => (by cases h)), (fun _ => ⟨zTw_of (i := 684) (by decide +kernel) rfl, zTw_of (i := 685) (by decide +kernel) rfl⟩)⟩
def kX2_sleep : mM := (yX2_sleep, RX2, cX2_sleep, 4, none, 1, 3)
theorem mkX2_sleep : zMok kX2_sleep := ⟨zTw_of (i := 690) (by decide +kernel) rfl, zTw_of (i := 3) (by decide +kernel) rfl, ⟨by decide +kernel, by decide +kernel, by decide +kernel⟩, by decide, (fun h => (by cases h)), (fun _ => ⟨zTw_of (i := 688) (by decide +kernel) rfl, zTw_of (i := 689) (by decide +kernel) rfl⟩)⟩
def kX10_morning : mM := (yX10_morning, RX10, cX10_morning, 7, some .int, 1, 3)
theorem mkX10_morning : zMok kX10_morning := ⟨zTw_of (i := 696) (by decide +kernel) rfl, zTw_of (i := 1) (by decide +kernel) rfl, ⟨by decide +kernel, by decide +kernel, by decide +kernel⟩, by decide, (fun h => (by cases h)), (fun _ => ⟨zTw_of (i := 694) (by decide +kernel) rfl, zTw_of (i := 695) (by decide +kernel) rfl⟩)⟩
def kX10_sheetAt : mM := (yX10_sheetAt, RX10, cX10_sheetAt, 2, some (.object "LaidByArgument$Sheet"), 1, 1)
theorem mkX10_sheetAt : zMok kX10_sheetAt := ⟨zTw_of (i := 700) (by decide +kernel) rfl, zTw_of (i := 1) (by decide +kernel) rfl, ⟨by decide +kernel, by decide +kernel, by decide +kernel⟩, by decide, (fun h => (by cases h)), (fun _ => ⟨zTw_of (i := 699) (by decide +kernel) rfl, zTw_ofL (i := 20) (by decide +kernel) rfl⟩)⟩
def kX10_refusalOfMorning : mM := (yX10_refusalOfMorning, RX10, cX10_refusalOfMorning, 2, some .int, 0, 1)
theorem mkX10_refusalOfMorning : zMok kX10_refusalOfMorning := ⟨zTw_of (i := 703) (by decide +kernel) rfl, zTw_of (i := 1) (by decide +kernel) rfl, ⟨by decide +kernel, by decide +kernel, by decide +kernel⟩, by decide, (fun _ => zTw_of (i := 702) (by decide +kernel) rfl), (fun h => (by cases h))⟩
def kX5_isMissing : mM := (yX5_isMissing, RX5, cX5_isMissing, 1, some .boolean, 1, 0)
theorem mkX5_isMissing : zMok kX5_isMissing := ⟨zTw_of (i := 707) (by decide +kernel) rfl, zTw_of (i := 11) (by decide +kernel) rfl, ⟨by decide +kernel, by decide +kernel, by decide +kernel⟩, by decide, (fun h => (by cases h)), (fun _ => ⟨zTw_of (i := 705) (by decide +kernel) rfl, zTw_of (i := 706) (by decide +kernel) rfl⟩)⟩
def kX5_size : mM := (yX5_size, RX5, cX5_size, 1, some .int, 1, 0)
theorem mkX5_size : zMok kX5_size := ⟨zTw_of (i := 711) (by decide +kernel) rfl, zTw_of (i := 11) (by decide +kernel) rfl, ⟨by decide +kernel, by decide +kernel, by decide +kernel⟩, by decide, (fun h => (by cases h)), (fun _ => ⟨zTw_of (i := 709) (by decide +kernel) rfl, zTw_of (i := 710) (by decide +kernel) rfl⟩)⟩
def kX5_item : mM := (yX5_item, RX5, cX5_item, 2, some .int, 1, 1)
theorem mkX5_item : zMok kX5_item := ⟨zTw_of (i := 715) (by decide +kernel) rfl, zTw_of (i := 11) (by decide +kernel) rfl, ⟨by decide +kernel, by decide +kernel, by decide +kernel⟩, by decide, (fun h => (by cases h)), (fun _ => ⟨zTw_of (i := 713) (by decide +kernel) rfl, zTw_of (i := 714) (by decide +kernel) rfl⟩)⟩
def kX5_hasItems : mM := (yX5_hasItems, RX5, cX5_hasItems, 3, some .boolean, 1, 2)
theorem mkX5_hasItems : zMok kX5_hasItems := ⟨zTw_of (i := 719) (by decide +kernel) rfl, zTw_of (i := 11) (by decide +kernel) rfl, ⟨by decide +kernel, by decide +kernel, by decide +kernel⟩, by decide, (fun h => (by cases h)), (fun _ => ⟨zTw_of (i := 717) (by decide +kernel) rfl, zTw_of (i := 718) (by decide +kernel) rfl⟩)⟩
def kX0_become : mM := (yX0_become, RX0, cX0_become, 2, none, 1, 1)
theorem mkX0_become : zMok kX0_become := ⟨zTw_of (i := 723) (by decide +kernel) rfl, zTw_of (i := 9) (by decide +kernel) rfl, ⟨by decide +kernel, by decide +kernel, by decide +kernel⟩, by decide, (fun h => (by cases h)), (fun _ => ⟨zTw_of (i := 721) (by decide +kernel) rfl, zTw_of (i := 722) (by decide +kernel) rfl⟩)⟩
def kX10_yieldsOnMorning : mM := (yX10_yieldsOnMorning, RX10, cX10_yieldsOnMorning, 4, some .int, 1, 1)
theorem mkX10_yieldsOnMorning : zMok kX10_yieldsOnMorning := ⟨zTw_of (i := 727) (by decide +kernel) rfl, zTw_of (i := 1) (by decide +kernel) rfl, ⟨by decide +kernel, by decide +kernel, by decide +kernel⟩, by decide, (fun h => (by cases h)), (fun _ => ⟨zTw_of (i := 726) (by decide +kernel) rfl, zTw_ofL (i := 21) (by decide +kernel) rfl⟩)⟩
def kX10_onMorning : mM := (yX10_onMorning, RX10, cX10_onMorning, 7, some .int, 1, 2)
theorem mkX10_onMorning : zMok kX10_onMorning := ⟨zTw_of (i := 731) (by decide +kernel) rfl, zTw_of (i := 1) (by decide +kernel) rfl, ⟨by decide +kernel, by decide +kernel, by decide +kernel⟩, by decide, (fun h => (by cases h)), (fun _ => ⟨zTw_of (i := 730) (by decide +kernel) rfl, zTw_ofL (i := 22) (by decide +kernel) rfl⟩)⟩
def kX10_teach : mM := (yX10_teach, RX10, cX10_teach, 8, some .int, 1, 2)
theorem mkX10_teach : zMok kX10_teach := ⟨zTw_of (i := 735) (by decide +kernel) rfl, zTw_of (i := 1) (by decide +kernel) rfl, ⟨by decide +kernel, by decide +kernel, by decide +kernel⟩, by decide, (fun h => (by cases h)), (fun _ => ⟨zTw_of (i := 733) (by decide +kernel) rfl, zTw_of (i := 734) (by decide +kernel) rfl⟩)⟩
def kX10_nights : mM := (yX10_nights, RX10, cX10_nights, 8, some .int, 1, 4)
theorem mkX10_nights : zMok kX10_nights := ⟨zTw_of (i := 739) (by decide +kernel) rfl, zTw_of (i := 1) (by decide +kernel) rfl, ⟨by decide +kernel, by decide +kernel, by decide +kernel⟩, by decide, (fun h => (by cases h)), (fun _ => ⟨zTw_of (i := 737) (by decide +kernel) rfl, zTw_of (i := 738) (by decide +kernel) rfl⟩)⟩
def kX10_field : mM := (yX10_field, RX10, cX10_field, 2, some .int, 1, 1)
theorem mkX10_field : zMok kX10_field := ⟨zTw_of (i := 743) (by decide +kernel) rfl, zTw_of (i := 1) (by decide +kernel) rfl, ⟨by decide +kernel, by decide +kernel, by decide +kernel⟩, by decide, (fun h => (by cases h)), (fun _ => ⟨zTw_of (i := 741) (by decide +kernel) rfl, zTw_of (i := 742) (by decide +kernel) rfl⟩)⟩
def kX6_standing : mM := (yX6_standing, RX6, cX6_standing, 3, some .int, 1, 0)
theorem mkX6_standing : zMok kX6_standing := ⟨zTw_of (i := 747) (by decide +kernel) rfl, zTw_of (i := 2) (by decide +kernel) rfl, ⟨by decide +kernel, by decide +kernel, by decide +kernel⟩, by decide, (fun h => (by cases h)), (fun _ => ⟨zTw_of (i := 745) (by decide +kernel) rfl, zTw_of (i := 746) (by decide +kernel) rfl⟩)⟩
def kX6_defendedBy : mM := (yX6_defendedBy, RX6, cX6_defendedBy, 5, some .int, 1, 1)
theorem mkX6_defendedBy : zMok kX6_defendedBy := ⟨zTw_of (i := 751) (by decide +kernel) rfl, zTw_of (i := 2) (by decide +kernel) rfl, ⟨by decide +kernel, by decide +kernel, by decide +kernel⟩, by decide, (fun h => (by cases h)), (fun _ => ⟨zTw_of (i := 749) (by decide +kernel) rfl, zTw_of (i := 750) (by decide +kernel) rfl⟩)⟩
def kX6_struckByAll : mM := (yX6_struckByAll, RX6, cX6_struckByAll, 4, some .int, 1, 1)
theorem mkX6_struckByAll : zMok kX6_struckByAll := ⟨zTw_of (i := 755) (by decide +kernel) rfl, zTw_of (i := 2) (by decide +kernel) rfl, ⟨by decide +kernel, by decide +kernel, by decide +kernel⟩, by decide, (fun h => (by cases h)), (fun _ => ⟨zTw_of (i := 753) (by decide +kernel) rfl, zTw_of (i := 754) (by decide +kernel) rfl⟩)⟩
def kX6_freeSets : mM := (yX6_freeSets, RX6, cX6_freeSets, 3, some .int, 1, 0)
theorem mkX6_freeSets : zMok kX6_freeSets := ⟨zTw_of (i := 761) (by decide +kernel) rfl, zTw_of (i := 2) (by decide +kernel) rfl, ⟨by decide +kernel, by decide +kernel, by decide +kernel⟩, by decide, (fun h => (by cases h)), (fun _ => ⟨zTw_of (i := 759) (by decide +kernel) rfl, zTw_of (i := 760) (by decide +kernel) rfl⟩)⟩
def kX6_isFree : mM := (yX6_isFree, RX6, cX6_isFree, 2, some .boolean, 1, 1)
theorem mkX6_isFree : zMok kX6_isFree := ⟨zTw_of (i := 765) (by decide +kernel) rfl, zTw_of (i := 2) (by decide +kernel) rfl, ⟨by decide +kernel, by decide +kernel, by decide +kernel⟩, by decide, (fun h => (by cases h)), (fun _ => ⟨zTw_of (i := 763) (by decide +kernel) rfl, zTw_of (i := 764) (by decide +kernel) rfl⟩)⟩
def kX6_stableSets : mM := (yX6_stableSets, RX6, cX6_stableSets, 3, some .int, 1, 0)
theorem mkX6_stableSets : zMok kX6_stableSets := ⟨zTw_of (i := 769) (by decide +kernel) rfl, zTw_of (i := 2) (by decide +kernel) rfl, ⟨by decide +kernel, by decide +kernel, by decide +kernel⟩, by decide, (fun h => (by cases h)), (fun _ => ⟨zTw_of (i := 767) (by decide +kernel) rfl, zTw_of (i := 768) (by decide +kernel) rfl⟩)⟩
def kX6_isStable : mM := (yX6_isStable, RX6, cX6_isStable, 2, some .boolean, 1, 1)
theorem mkX6_isStable : zMok kX6_isStable := ⟨zTw_of (i := 773) (by decide +kernel) rfl, zTw_of (i := 2) (by decide +kernel) rfl, ⟨by decide +kernel, by decide +kernel, by decide +kernel⟩, by decide, (fun h => (by cases h)), (fun _ => ⟨zTw_of (i := 771) (by decide +kernel) rfl, zTw_of (i := 772) (by decide +kernel) rfl⟩)⟩
def kX6_leastStable : mM := (yX6_leastStable, RX6, cX6_leastStable, 2, some .int, 1, 0)
theorem mkX6_leastStable : zMok kX6_leastStable := ⟨zTw_of (i := 777) (by decide +kernel) rfl, zTw_of (i := 2) (by decide +kernel) rfl, ⟨by decide +kernel, by decide +kernel, by decide +kernel⟩, by decide, (fun h => (by cases h)), (fun _ => ⟨zTw_of (i := 775) (by decide +kernel) rfl, zTw_of (i := 776) (by decide +kernel) rfl⟩)⟩
def kX6_vain : mM := (yX6_vain, RX6, cX6_vain, 5, some .int, 1, 0)
theorem mkX6_vain : zMok kX6_vain := ⟨zTw_of (i := 781) (by decide +kernel) rfl, zTw_of (i := 2) (by decide +kernel) rfl, ⟨by decide +kernel, by decide +kernel, by decide +kernel⟩, by decide, (fun h => (by cases h)), (fun _ => ⟨zTw_of (i := 779) (by decide +kernel) rfl, zTw_of (i := 780) (by decide +kernel) rfl⟩)⟩
def kX10_sets : mM := (yX10_sets, RX10, cX10_sets, 3, some .int, 1, 2)
theorem mkX10_sets : zMok kX10_sets := ⟨zTw_of (i := 787) (by decide +kernel) rfl, zTw_of (i := 1) (by decide +kernel) rfl, ⟨by decide +kernel, by decide +kernel, by decide +kernel⟩, by decide, (fun h => (by cases h)), (fun _ => ⟨zTw_of (i := 785) (by decide +kernel) rfl, zTw_of (i := 786) (by decide +kernel) rfl⟩)⟩
def kX10_share : mM := (yX10_share, RX10, cX10_share, 2, some .long, 1, 1)
theorem mkX10_share : zMok kX10_share := ⟨zTw_of (i := 794) (by decide +kernel) rfl, zTw_of (i := 1) (by decide +kernel) rfl, ⟨by decide +kernel, by decide +kernel, by decide +kernel⟩, by decide, (fun h => (by cases h)), (fun _ => ⟨zTw_of (i := 792) (by decide +kernel) rfl, zTw_of (i := 793) (by decide +kernel) rfl⟩)⟩
def kX10_partOfLowest : mM := (yX10_partOfLowest, RX10, cX10_partOfLowest, 7, some .int, 0, 3)
theorem mkX10_partOfLowest : zMok kX10_partOfLowest := ⟨zTw_of (i := 798) (by decide +kernel) rfl, zTw_of (i := 1) (by decide +kernel) rfl, ⟨by decide +kernel, by decide +kernel, by decide +kernel⟩, by decide, (fun _ => zTw_of (i := 797) (by decide +kernel) rfl), (fun h => (by cases h))⟩
def kX10_best : mM := (yX10_best, RX10, cX10_best, 4, some .int, 1, 2)
theorem mkX10_best : zMok kX10_best := ⟨zTw_of (i := 803) (by decide +kernel) rfl, zTw_of (i := 1) (by decide +kernel) rfl, ⟨by decide +kernel, by decide +kernel, by decide +kernel⟩, by decide, (fun h => (by cases h)), (fun _ => ⟨zTw_of (i := 801) (by decide +kernel) rfl, zTw_of (i := 802) (by decide +kernel) rfl⟩)⟩
def kX10_bestPoint : mM := (yX10_bestPoint, RX10, cX10_bestPoint, 6, some .int, 1, 1)
theorem mkX10_bestPoint : zMok kX10_bestPoint := ⟨zTw_of (i := 807) (by decide +kernel) rfl, zTw_of (i := 1) (by decide +kernel) rfl, ⟨by decide +kernel, by decide +kernel, by decide +kernel⟩, by decide, (fun h => (by cases h)), (fun _ => ⟨zTw_of (i := 806) (by decide +kernel) rfl, zTw_ofL (i := 23) (by decide +kernel) rfl⟩)⟩
def kX10_nearestTo : mM := (yX10_nearestTo, RX10, cX10_nearestTo, 6, some .int, 1, 1)
theorem mkX10_nearestTo : zMok kX10_nearestTo := ⟨zTw_of (i := 811) (by decide +kernel) rfl, zTw_of (i := 1) (by decide +kernel) rfl, ⟨by decide +kernel, by decide +kernel, by decide +kernel⟩, by decide, (fun h => (by cases h)), (fun _ => ⟨zTw_of (i := 810) (by decide +kernel) rfl, zTw_ofL (i := 24) (by decide +kernel) rfl⟩)⟩
def kX10_agree : mM := (yX10_agree, RX10, cX10_agree, 5, some .int, 1, 2)
theorem mkX10_agree : zMok kX10_agree := ⟨zTw_of (i := 815) (by decide +kernel) rfl, zTw_of (i := 1) (by decide +kernel) rfl, ⟨by decide +kernel, by decide +kernel, by decide +kernel⟩, by decide, (fun h => (by cases h)), (fun _ => ⟨zTw_of (i := 813) (by decide +kernel) rfl, zTw_of (i := 814) (by decide +kernel) rfl⟩)⟩
def kX10_three : mM := (yX10_three, RX10, cX10_three, 6, some .int, 1, 3)
theorem mkX10_three : zMok kX10_three := ⟨zTw_of (i := 819) (by decide +kernel) rfl, zTw_of (i := 1) (by decide +kernel) rfl, ⟨by decide +kernel, by decide +kernel, by decide +kernel⟩, by decide, (fun h => (by cases h)), (fun _ => ⟨zTw_of (i := 817) (by decide +kernel) rfl, zTw_of (i := 818) (by decide +kernel) rfl⟩)⟩
def kX3_begin : mM := (yX3_begin, RX3, cX3_begin, 2, none, 1, 1)
theorem mkX3_begin : zMok kX3_begin := ⟨zTw_of (i := 823) (by decide +kernel) rfl, zTw_of (i := 8) (by decide +kernel) rfl, ⟨by decide +kernel, by decide +kernel, by decide +kernel⟩, by decide, (fun h => (by cases h)), (fun _ => ⟨zTw_of (i := 821) (by decide +kernel) rfl, zTw_of (i := 822) (by decide +kernel) rfl⟩)⟩
def kX3_tryAll : mM := (yX3_tryAll, RX3, cX3_tryAll, 7, none, 1, 3)
theorem mkX3_tryAll : zMok kX3_tryAll := ⟨zTw_of (i := 828) (by decide +kernel) rfl, zTw_of (i := 8) (by decide +kernel) rfl, ⟨by decide +kernel, by decide +kernel, by decide +kernel⟩, by decide, (fun h => (by cases h)), (fun _ => ⟨zTw_of (i := 826) (by decide +kernel) rfl, zTw_of (i := 827) (by decide +kernel) rfl⟩)⟩
def kX3_firstOf : mM := (yX3_firstOf, RX3, cX3_firstOf, 3, some .int, 0, 1)
theorem mkX3_firstOf : zMok kX3_firstOf := ⟨zTw_of (i := 831) (by decide +kernel) rfl, zTw_of (i := 8) (by decide +kernel) rfl, ⟨by decide +kernel, by decide +kernel, by decide +kernel⟩, by decide, (fun _ => zTw_of (i := 830) (by decide +kernel) rfl), (fun h => (by cases h))⟩
def kX3_bestOf : mM := (yX3_bestOf, RX3, cX3_bestOf, 5, some .int, 1, 1)
theorem mkX3_bestOf : zMok kX3_bestOf := ⟨zTw_of (i := 837) (by decide +kernel) rfl, zTw_of (i := 8) (by decide +kernel) rfl, ⟨by decide +kernel, by decide +kernel, by decide +kernel⟩, by decide, (fun h => (by cases h)), (fun _ => ⟨zTw_of (i := 835) (by decide +kernel) rfl, zTw_of (i := 836) (by decide +kernel) rfl⟩)⟩
def kX3_numberOf : mM := (yX3_numberOf, RX3, cX3_numberOf, 6, some .int, 1, 1)
theorem mkX3_numberOf : zMok kX3_numberOf := ⟨zTw_of (i := 841) (by decide +kernel) rfl, zTw_of (i := 8) (by decide +kernel) rfl, ⟨by decide +kernel, by decide +kernel, by decide +kernel⟩, by decide, (fun h => (by cases h)), (fun _ => ⟨zTw_of (i := 839) (by decide +kernel) rfl, zTw_of (i := 840) (by decide +kernel) rfl⟩)⟩
def kX3_laidOn : mM := (yX3_laidOn, RX3, cX3_laidOn, 2, some .int, 1, 1)
theorem mkX3_laidOn : zMok kX3_laidOn := ⟨zTw_of (i := 845) (by decide +kernel) rfl, zTw_of (i := 8) (by decide +kernel) rfl, ⟨by decide +kernel, by decide +kernel, by decide +kernel⟩, by decide, (fun h => (by cases h)), (fun _ => ⟨zTw_of (i := 843) (by decide +kernel) rfl, zTw_of (i := 844) (by decide +kernel) rfl⟩)⟩
def kX10_whom : mM := (yX10_whom, RX10, cX10_whom, 7, some .int, 1, 2)
theorem mkX10_whom : zMok kX10_whom := ⟨zTw_of (i := 849) (by decide +kernel) rfl, zTw_of (i := 1) (by decide +kernel) rfl, ⟨by decide +kernel, by decide +kernel, by decide +kernel⟩, by decide, (fun h => (by cases h)), (fun _ => ⟨zTw_of (i := 847) (by decide +kernel) rfl, zTw_of (i := 848) (by decide +kernel) rfl⟩)⟩
def kX10_win : mM := (yX10_win, RX10, cX10_win, 5, some .int, 1, 2)
theorem mkX10_win : zMok kX10_win := ⟨zTw_of (i := 853) (by decide +kernel) rfl, zTw_of (i := 1) (by decide +kernel) rfl, ⟨by decide +kernel, by decide +kernel, by decide +kernel⟩, by decide, (fun h => (by cases h)), (fun _ => ⟨zTw_of (i := 851) (by decide +kernel) rfl, zTw_of (i := 852) (by decide +kernel) rfl⟩)⟩
def kX3_isHeldBehind : mM := (yX3_isHeldBehind, RX3, cX3_isHeldBehind, 5, some .boolean, 1, 2)
theorem mkX3_isHeldBehind : zMok kX3_isHeldBehind := ⟨zTw_of (i := 857) (by decide +kernel) rfl, zTw_of (i := 8) (by decide +kernel) rfl, ⟨by decide +kernel, by decide +kernel, by decide +kernel⟩, by decide, (fun h => (by cases h)), (fun _ => ⟨zTw_of (i := 855) (by decide +kernel) rfl, zTw_of (i := 856) (by decide +kernel) rfl⟩)⟩
def kX10_tells : mM := (yX10_tells, RX10, cX10_tells, 6, some .int, 1, 3)
theorem mkX10_tells : zMok kX10_tells := ⟨zTw_of (i := 863) (by decide +kernel) rfl, zTw_of (i := 1) (by decide +kernel) rfl, ⟨by decide +kernel, by decide +kernel, by decide +kernel⟩, by decide, (fun h => (by cases h)), (fun _ => ⟨zTw_of (i := 861) (by decide +kernel) rfl, zTw_of (i := 862) (by decide +kernel) rfl⟩)⟩
def kX10_firstOtherwise : mM := (yX10_firstOtherwise, RX10, cX10_firstOtherwise, 6, some .int, 1, 4)
theorem mkX10_firstOtherwise : zMok kX10_firstOtherwise := ⟨zTw_of (i := 867) (by decide +kernel) rfl, zTw_of (i := 1) (by decide +kernel) rfl, ⟨by decide +kernel, by decide +kernel, by decide +kernel⟩, by decide, (fun h => (by cases h)), (fun _ => ⟨zTw_of (i := 866) (by decide +kernel) rfl, zTw_ofL (i := 25) (by decide +kernel) rfl⟩)⟩
def kX10_kindsTold : mM := (yX10_kindsTold, RX10, cX10_kindsTold, 5, some .int, 1, 2)
theorem mkX10_kindsTold : zMok kX10_kindsTold := ⟨zTw_of (i := 871) (by decide +kernel) rfl, zTw_of (i := 1) (by decide +kernel) rfl, ⟨by decide +kernel, by decide +kernel, by decide +kernel⟩, by decide, (fun h => (by cases h)), (fun _ => ⟨zTw_of (i := 870) (by decide +kernel) rfl, zTw_ofL (i := 26) (by decide +kernel) rfl⟩)⟩
def kX10_numbersTold : mM := (yX10_numbersTold, RX10, cX10_numbersTold, 5, some .int, 1, 2)
theorem mkX10_numbersTold : zMok kX10_numbersTold := ⟨zTw_of (i := 875) (by decide +kernel) rfl, zTw_of (i := 1) (by decide +kernel) rfl, ⟨by decide +kernel, by decide +kernel, by decide +kernel⟩, by decide, (fun h => (by cases h)), (fun _ => ⟨zTw_of (i := 874) (by decide +kernel) rfl, zTw_ofL (i := 27) (by decide +kernel) rfl⟩)⟩
def kX10_daysTold : mM := (yX10_daysTold, RX10, cX10_daysTold, 5, some .int, 1, 2)
theorem mkX10_daysTold : zMok kX10_daysTold := ⟨zTw_of (i := 879) (by decide +kernel) rfl, zTw_of (i := 1) (by decide +kernel) rfl, ⟨by decide +kernel, by decide +kernel, by decide +kernel⟩, by decide, (fun h => (by cases h)), (fun _ => ⟨zTw_of (i := 878) (by decide +kernel) rfl, zTw_ofL (i := 28) (by decide +kernel) rfl⟩)⟩
def kX10_firstDayTold : mM := (yX10_firstDayTold, RX10, cX10_firstDayTold, 4, some .int, 1, 2)
theorem mkX10_firstDayTold : zMok kX10_firstDayTold := ⟨zTw_of (i := 883) (by decide +kernel) rfl, zTw_of (i := 1) (by decide +kernel) rfl, ⟨by decide +kernel, by decide +kernel, by decide +kernel⟩, by decide, (fun h => (by cases h)), (fun _ => ⟨zTw_of (i := 882) (by decide +kernel) rfl, zTw_ofL (i := 29) (by decide +kernel) rfl⟩)⟩
def kX10_argumentsTold : mM := (yX10_argumentsTold, RX10, cX10_argumentsTold, 5, some .int, 1, 2)
theorem mkX10_argumentsTold : zMok kX10_argumentsTold := ⟨zTw_of (i := 887) (by decide +kernel) rfl, zTw_of (i := 1) (by decide +kernel) rfl, ⟨by decide +kernel, by decide +kernel, by decide +kernel⟩, by decide, (fun h => (by cases h)), (fun _ => ⟨zTw_of (i := 886) (by decide +kernel) rfl, zTw_ofL (i := 30) (by decide +kernel) rfl⟩)⟩
def kX10_textsTold : mM := (yX10_textsTold, RX10, cX10_textsTold, 5, some .int, 1, 2)
theorem mkX10_textsTold : zMok kX10_textsTold := ⟨zTw_of (i := 891) (by decide +kernel) rfl, zTw_of (i := 1) (by decide +kernel) rfl, ⟨by decide +kernel, by decide +kernel, by decide +kernel⟩, by decide, (fun h => (by cases h)), (fun _ => ⟨zTw_of (i := 890) (by decide +kernel) rfl, zTw_ofL (i := 31) (by decide +kernel) rfl⟩)⟩
def kX10_hensTold : mM := (yX10_hensTold, RX10, cX10_hensTold, 4, some .int, 1, 1)
theorem mkX10_hensTold : zMok kX10_hensTold := ⟨zTw_of (i := 895) (by decide +kernel) rfl, zTw_of (i := 1) (by decide +kernel) rfl, ⟨by decide +kernel, by decide +kernel, by decide +kernel⟩, by decide, (fun h => (by cases h)), (fun _ => ⟨zTw_of (i := 894) (by decide +kernel) rfl, zTw_ofL (i := 32) (by decide +kernel) rfl⟩)⟩
def kX10_film : mM := (yX10_film, RX10, cX10_film, 8, some .int, 1, 2)
theorem mkX10_film : zMok kX10_film := ⟨zTw_of (i := 899) (by decide +kernel) rfl, zTw_of (i := 1) (by decide +kernel) rfl, ⟨by decide +kernel, by decide +kernel, by decide +kernel⟩, by decide, (fun h => (by cases h)), (fun _ => ⟨zTw_of (i := 897) (by decide +kernel) rfl, zTw_of (i := 898) (by decide +kernel) rfl⟩)⟩
def kX5_become : mM := (yX5_become, RX5, cX5_become, 4, none, 1, 2)
theorem mkX5_become : zMok kX5_become := ⟨zTw_of (i := 903) (by decide +kernel) rfl, zTw_of (i := 11) (by decide +kernel) rfl, ⟨by decide +kernel, by decide +kernel, by decide +kernel⟩, by decide, (fun h => (by cases h)), (fun _ => ⟨zTw_of (i := 901) (by decide +kernel) rfl, zTw_of (i := 902) (by decide +kernel) rfl⟩)⟩
def kX5_write : mM := (yX5_write, RX5, cX5_write, 3, none, 1, 2)
theorem mkX5_write : zMok kX5_write := ⟨zTw_of (i := 909) (by decide +kernel) rfl, zTw_of (i := 11) (by decide +kernel) rfl, ⟨by decide +kernel, by decide +kernel, by decide +kernel⟩, by decide, (fun h => (by cases h)), (fun _ => ⟨zTw_of (i := 907) (by decide +kernel) rfl, zTw_of (i := 908) (by decide +kernel) rfl⟩)⟩
def kX10_drawn : mM := (yX10_drawn, RX10, cX10_drawn, 5, some .int, 1, 3)
theorem mkX10_drawn : zMok kX10_drawn := ⟨zTw_of (i := 913) (by decide +kernel) rfl, zTw_of (i := 1) (by decide +kernel) rfl, ⟨by decide +kernel, by decide +kernel, by decide +kernel⟩, by decide, (fun h => (by cases h)), (fun _ => ⟨zTw_of (i := 911) (by decide +kernel) rfl, zTw_of (i := 912) (by decide +kernel) rfl⟩)⟩
def kX10_laidOnDrawn : mM := (yX10_laidOnDrawn, RX10, cX10_laidOnDrawn, 7, some .int, 1, 3)
theorem mkX10_laidOnDrawn : zMok kX10_laidOnDrawn := ⟨zTw_of (i := 917) (by decide +kernel) rfl, zTw_of (i := 1) (by decide +kernel) rfl, ⟨by decide +kernel, by decide +kernel, by decide +kernel⟩, by decide, (fun h => (by cases h)), (fun _ => ⟨zTw_of (i := 916) (by decide +kernel) rfl, zTw_ofL (i := 33) (by decide +kernel) rfl⟩)⟩
def kX10_chance : mM := (yX10_chance, RX10, cX10_chance, 9, some .long, 1, 5)
theorem mkX10_chance : zMok kX10_chance := ⟨zTw_of (i := 922) (by decide +kernel) rfl, zTw_of (i := 1) (by decide +kernel) rfl, ⟨by decide +kernel, by decide +kernel, by decide +kernel⟩, by decide, (fun h => (by cases h)), (fun _ => ⟨zTw_of (i := 920) (by decide +kernel) rfl, zTw_of (i := 921) (by decide +kernel) rfl⟩)⟩
def kX10_image : mM := (yX10_image, RX10, cX10_image, 2, some .int, 1, 0)
theorem mkX10_image : zMok kX10_image := ⟨zTw_of (i := 926) (by decide +kernel) rfl, zTw_of (i := 1) (by decide +kernel) rfl, ⟨by decide +kernel, by decide +kernel, by decide +kernel⟩, by decide, (fun h => (by cases h)), (fun _ => ⟨zTw_of (i := 924) (by decide +kernel) rfl, zTw_of (i := 925) (by decide +kernel) rfl⟩)⟩
def kX6_become : mM := (yX6_become, RX6, cX6_become, 2, none, 1, 1)
theorem mkX6_become : zMok kX6_become := ⟨zTw_of (i := 930) (by decide +kernel) rfl, zTw_of (i := 2) (by decide +kernel) rfl, ⟨by decide +kernel, by decide +kernel, by decide +kernel⟩, by decide, (fun h => (by cases h)), (fun _ => ⟨zTw_of (i := 928) (by decide +kernel) rfl, zTw_of (i := 929) (by decide +kernel) rfl⟩)⟩
def kX10_back : mM := (yX10_back, RX10, cX10_back, 2, some .int, 1, 0)
theorem mkX10_back : zMok kX10_back := ⟨zTw_of (i := 935) (by decide +kernel) rfl, zTw_of (i := 1) (by decide +kernel) rfl, ⟨by decide +kernel, by decide +kernel, by decide +kernel⟩, by decide, (fun h => (by cases h)), (fun _ => ⟨zTw_of (i := 933) (by decide +kernel) rfl, zTw_of (i := 934) (by decide +kernel) rfl⟩)⟩
def kX10_count : mM := (yX10_count, RX10, cX10_count, 2, some .int, 1, 1)
theorem mkX10_count : zMok kX10_count := ⟨zTw_of (i := 939) (by decide +kernel) rfl, zTw_of (i := 1) (by decide +kernel) rfl, ⟨by decide +kernel, by decide +kernel, by decide +kernel⟩, by decide, (fun h => (by cases h)), (fun _ => ⟨zTw_of (i := 937) (by decide +kernel) rfl, zTw_of (i := 938) (by decide +kernel) rfl⟩)⟩
def kX6_twos : mM := (yX6_twos, RX6, cX6_twos, 3, some .int, 1, 0)
theorem mkX6_twos : zMok kX6_twos := ⟨zTw_of (i := 943) (by decide +kernel) rfl, zTw_of (i := 2) (by decide +kernel) rfl, ⟨by decide +kernel, by decide +kernel, by decide +kernel⟩, by decide, (fun h => (by cases h)), (fun _ => ⟨zTw_of (i := 941) (by decide +kernel) rfl, zTw_of (i := 942) (by decide +kernel) rfl⟩)⟩
def kX10_eggsOfAll : mM := (yX10_eggsOfAll, RX10, cX10_eggsOfAll, 3, some .int, 1, 0)
theorem mkX10_eggsOfAll : zMok kX10_eggsOfAll := ⟨zTw_of (i := 947) (by decide +kernel) rfl, zTw_of (i := 1) (by decide +kernel) rfl, ⟨by decide +kernel, by decide +kernel, by decide +kernel⟩, by decide, (fun h => (by cases h)), (fun _ => ⟨zTw_of (i := 946) (by decide +kernel) rfl, zTw_ofL (i := 34) (by decide +kernel) rfl⟩)⟩
def kX10_sheet : mM := (yX10_sheet, RX10, cX10_sheet, 5, some .int, 1, 3)
theorem mkX10_sheet : zMok kX10_sheet := ⟨zTw_of (i := 951) (by decide +kernel) rfl, zTw_of (i := 1) (by decide +kernel) rfl, ⟨by decide +kernel, by decide +kernel, by decide +kernel⟩, by decide, (fun h => (by cases h)), (fun _ => ⟨zTw_of (i := 949) (by decide +kernel) rfl, zTw_of (i := 950) (by decide +kernel) rfl⟩)⟩
def kX10_isSort : mM := (yX10_isSort, RX10, cX10_isSort, 1, some .boolean, 0, 1)
theorem mkX10_isSort : zMok kX10_isSort := ⟨zTw_of (i := 954) (by decide +kernel) rfl, zTw_of (i := 1) (by decide +kernel) rfl, ⟨by decide +kernel, by decide +kernel, by decide +kernel⟩, by decide, (fun _ => zTw_of (i := 953) (by decide +kernel) rfl), (fun h => (by cases h))⟩
def kX10_cell : mM := (yX10_cell, RX10, cX10_cell, 5, some .int, 1, 3)
theorem mkX10_cell : zMok kX10_cell := ⟨zTw_of (i := 958) (by decide +kernel) rfl, zTw_of (i := 1) (by decide +kernel) rfl, ⟨by decide +kernel, by decide +kernel, by decide +kernel⟩, by decide, (fun h => (by cases h)), (fun _ => ⟨zTw_of (i := 956) (by decide +kernel) rfl, zTw_of (i := 957) (by decide +kernel) rfl⟩)⟩
def kX10_copy : mM := (yX10_copy, RX10, cX10_copy, 8, some .int, 1, 5)
theorem mkX10_copy : zMok kX10_copy := ⟨zTw_of (i := 963) (by decide +kernel) rfl, zTw_of (i := 1) (by decide +kernel) rfl, ⟨by decide +kernel, by decide +kernel, by decide +kernel⟩, by decide, (fun h => (by cases h)), (fun _ => ⟨zTw_of (i := 961) (by decide +kernel) rfl, zTw_of (i := 962) (by decide +kernel) rfl⟩)⟩
def kX5_sort : mM := (yX5_sort, RX5, cX5_sort, 1, some .int, 1, 0)
theorem mkX5_sort : zMok kX5_sort := ⟨zTw_of (i := 967) (by decide +kernel) rfl, zTw_of (i := 11) (by decide +kernel) rfl, ⟨by decide +kernel, by decide +kernel, by decide +kernel⟩, by decide, (fun h => (by cases h)), (fun _ => ⟨zTw_of (i := 965) (by decide +kernel) rfl, zTw_of (i := 966) (by decide +kernel) rfl⟩)⟩
def kX5_copyTo : mM := (yX5_copyTo, RX5, cX5_copyTo, 5, none, 1, 4)
theorem mkX5_copyTo : zMok kX5_copyTo := ⟨zTw_of (i := 971) (by decide +kernel) rfl, zTw_of (i := 11) (by decide +kernel) rfl, ⟨by decide +kernel, by decide +kernel, by decide +kernel⟩, by decide, (fun h => (by cases h)), (fun _ => ⟨zTw_of (i := 969) (by decide +kernel) rfl, zTw_of (i := 970) (by decide +kernel) rfl⟩)⟩
def kX10_hens : mM := (yX10_hens, RX10, cX10_hens, 9, some .int, 1, 4)
theorem mkX10_hens : zMok kX10_hens := ⟨zTw_of (i := 976) (by decide +kernel) rfl, zTw_of (i := 1) (by decide +kernel) rfl, ⟨by decide +kernel, by decide +kernel, by decide +kernel⟩, by decide, (fun h => (by cases h)), (fun _ => ⟨zTw_of (i := 974) (by decide +kernel) rfl, zTw_of (i := 975) (by decide +kernel) rfl⟩)⟩
def kX10_taken : mM := (yX10_taken, RX10, cX10_taken, 4, some .int, 1, 2)
theorem mkX10_taken : zMok kX10_taken := ⟨zTw_of (i := 981) (by decide +kernel) rfl, zTw_of (i := 1) (by decide +kernel) rfl, ⟨by decide +kernel, by decide +kernel, by decide +kernel⟩, by decide, (fun h => (by cases h)), (fun _ => ⟨zTw_of (i := 979) (by decide +kernel) rfl, zTw_of (i := 980) (by decide +kernel) rfl⟩)⟩
def kX10_isUnder : mM := (yX10_isUnder, RX10, cX10_isUnder, 4, some .boolean, 0, 2)
theorem mkX10_isUnder : zMok kX10_isUnder := ⟨zTw_of (i := 984) (by decide +kernel) rfl, zTw_of (i := 1) (by decide +kernel) rfl, ⟨by decide +kernel, by decide +kernel, by decide +kernel⟩, by decide, (fun _ => zTw_of (i := 983) (by decide +kernel) rfl), (fun h => (by cases h))⟩
def kX11_init : mM := (yX11_init, RX11, cX11_init, 1, none, 2, 0)
theorem mkX11_init : zMok kX11_init := ⟨zTw_of (i := 991) (by decide +kernel) rfl, zTw_of (i := 19) (by decide +kernel) rfl, ⟨by decide +kernel, by decide +kernel, by decide +kernel⟩, by decide, (fun h => (by cases h)), (fun h => (by cases h))⟩
def kX11_spell : mM := (yX11_spell, RX11, cX11_spell, 10, none, 1, 9)
theorem mkX11_spell : zMok kX11_spell := ⟨zTw_of (i := 996) (by decide +kernel) rfl, zTw_of (i := 19) (by decide +kernel) rfl, ⟨by decide +kernel, by decide +kernel, by decide +kernel⟩, by decide, (fun h => (by cases h)), (fun _ => ⟨zTw_of (i := 995) (by decide +kernel) rfl, zTw_ofL (i := 35) (by decide +kernel) rfl⟩)⟩
def kX11_against : mM := (yX11_against, RX11, cX11_against, 5, some .int, 1, 3)
theorem mkX11_against : zMok kX11_against := ⟨zTw_of (i := 1139) (by decide +kernel) rfl, zTw_of (i := 19) (by decide +kernel) rfl, ⟨by decide +kernel, by decide +kernel, by decide +kernel⟩, by decide, (fun h => (by cases h)), (fun _ => ⟨zTw_of (i := 1137) (by decide +kernel) rfl, zTw_of (i := 1138) (by decide +kernel) rfl⟩)⟩
def kX11_isPoint : mM := (yX11_isPoint, RX11, cX11_isPoint, 1, some .boolean, 0, 1)
theorem mkX11_isPoint : zMok kX11_isPoint := ⟨zTw_of (i := 1142) (by decide +kernel) rfl, zTw_of (i := 19) (by decide +kernel) rfl, ⟨by decide +kernel, by decide +kernel, by decide +kernel⟩, by decide, (fun _ => zTw_of (i := 1141) (by decide +kernel) rfl), (fun h => (by cases h))⟩
def kX11_in : mM := (yX11_in, RX11, cX11_in, 6, some .boolean, 0, 3)
theorem mkX11_in : zMok kX11_in := ⟨zTw_of (i := 1146) (by decide +kernel) rfl, zTw_of (i := 19) (by decide +kernel) rfl, ⟨by decide +kernel, by decide +kernel, by decide +kernel⟩, by decide, (fun _ => zTw_of (i := 1145) (by decide +kernel) rfl), (fun h => (by cases h))⟩
def kX11_set : mM := (yX11_set, RX11, cX11_set, 5, some .int, 1, 3)
theorem mkX11_set : zMok kX11_set := ⟨zTw_of (i := 1150) (by decide +kernel) rfl, zTw_of (i := 19) (by decide +kernel) rfl, ⟨by decide +kernel, by decide +kernel, by decide +kernel⟩, by decide, (fun h => (by cases h)), (fun _ => ⟨zTw_of (i := 1148) (by decide +kernel) rfl, zTw_of (i := 1149) (by decide +kernel) rfl⟩)⟩
def kX11_isHen : mM := (yX11_isHen, RX11, cX11_isHen, 2, some .boolean, 1, 1)
theorem mkX11_isHen : zMok kX11_isHen := ⟨zTw_of (i := 1155) (by decide +kernel) rfl, zTw_of (i := 19) (by decide +kernel) rfl, ⟨by decide +kernel, by decide +kernel, by decide +kernel⟩, by decide, (fun h => (by cases h)), (fun _ => ⟨zTw_of (i := 1154) (by decide +kernel) rfl, zTw_ofL (i := 36) (by decide +kernel) rfl⟩)⟩
def kX11_mostOf : mM := (yX11_mostOf, RX11, cX11_mostOf, 1, some .int, 0, 1)
theorem mkX11_mostOf : zMok kX11_mostOf := ⟨zTw_of (i := 1158) (by decide +kernel) rfl, zTw_of (i := 19) (by decide +kernel) rfl, ⟨by decide +kernel, by decide +kernel, by decide +kernel⟩, by decide, (fun _ => zTw_of (i := 1157) (by decide +kernel) rfl), (fun h => (by cases h))⟩
def kX11_told : mM := (yX11_told, RX11, cX11_told, 3, some .int, 1, 2)
theorem mkX11_told : zMok kX11_told := ⟨zTw_of (i := 1162) (by decide +kernel) rfl, zTw_of (i := 19) (by decide +kernel) rfl, ⟨by decide +kernel, by decide +kernel, by decide +kernel⟩, by decide, (fun h => (by cases h)), (fun _ => ⟨zTw_of (i := 1160) (by decide +kernel) rfl, zTw_of (i := 1161) (by decide +kernel) rfl⟩)⟩
def kX11_dropSet : mM := (yX11_dropSet, RX11, cX11_dropSet, 4, some .int, 1, 1)
theorem mkX11_dropSet : zMok kX11_dropSet := ⟨zTw_of (i := 1167) (by decide +kernel) rfl, zTw_of (i := 19) (by decide +kernel) rfl, ⟨by decide +kernel, by decide +kernel, by decide +kernel⟩, by decide, (fun h => (by cases h)), (fun _ => ⟨zTw_of (i := 1166) (by decide +kernel) rfl, zTw_ofL (i := 37) (by decide +kernel) rfl⟩)⟩
def kX11_holdsIt : mM := (yX11_holdsIt, RX11, cX11_holdsIt, 3, some .boolean, 1, 2)
theorem mkX11_holdsIt : zMok kX11_holdsIt := ⟨zTw_of (i := 1171) (by decide +kernel) rfl, zTw_of (i := 19) (by decide +kernel) rfl, ⟨by decide +kernel, by decide +kernel, by decide +kernel⟩, by decide, (fun h => (by cases h)), (fun _ => ⟨zTw_of (i := 1170) (by decide +kernel) rfl, zTw_ofL (i := 38) (by decide +kernel) rfl⟩)⟩
def kX11_holdsOf : mM := (yX11_holdsOf, RX11, cX11_holdsOf, 2, some .int, 1, 1)
theorem mkX11_holdsOf : zMok kX11_holdsOf := ⟨zTw_of (i := 1175) (by decide +kernel) rfl, zTw_of (i := 19) (by decide +kernel) rfl, ⟨by decide +kernel, by decide +kernel, by decide +kernel⟩, by decide, (fun h => (by cases h)), (fun _ => ⟨zTw_of (i := 1174) (by decide +kernel) rfl, zTw_ofL (i := 39) (by decide +kernel) rfl⟩)⟩
def kX11_dropsIt : mM := (yX11_dropsIt, RX11, cX11_dropsIt, 5, some .boolean, 1, 2)
theorem mkX11_dropsIt : zMok kX11_dropsIt := ⟨zTw_of (i := 1179) (by decide +kernel) rfl, zTw_of (i := 19) (by decide +kernel) rfl, ⟨by decide +kernel, by decide +kernel, by decide +kernel⟩, by decide, (fun h => (by cases h)), (fun _ => ⟨zTw_of (i := 1178) (by decide +kernel) rfl, zTw_ofL (i := 40) (by decide +kernel) rfl⟩)⟩
def kX11_says : mM := (yX11_says, RX11, cX11_says, 5, some .int, 1, 3)
theorem mkX11_says : zMok kX11_says := ⟨zTw_of (i := 1183) (by decide +kernel) rfl, zTw_of (i := 19) (by decide +kernel) rfl, ⟨by decide +kernel, by decide +kernel, by decide +kernel⟩, by decide, (fun h => (by cases h)), (fun _ => ⟨zTw_of (i := 1182) (by decide +kernel) rfl, zTw_ofL (i := 41) (by decide +kernel) rfl⟩)⟩
def kX11_objects : mM := (yX11_objects, RX11, cX11_objects, 3, some .int, 1, 2)
theorem mkX11_objects : zMok kX11_objects := ⟨zTw_of (i := 1187) (by decide +kernel) rfl, zTw_of (i := 19) (by decide +kernel) rfl, ⟨by decide +kernel, by decide +kernel, by decide +kernel⟩, by decide, (fun h => (by cases h)), (fun _ => ⟨zTw_of (i := 1186) (by decide +kernel) rfl, zTw_ofL (i := 42) (by decide +kernel) rfl⟩)⟩
def kX11_foes : mM := (yX11_foes, RX11, cX11_foes, 4, some .int, 1, 1)
theorem mkX11_foes : zMok kX11_foes := ⟨zTw_of (i := 1191) (by decide +kernel) rfl, zTw_of (i := 19) (by decide +kernel) rfl, ⟨by decide +kernel, by decide +kernel, by decide +kernel⟩, by decide, (fun h => (by cases h)), (fun _ => ⟨zTw_of (i := 1190) (by decide +kernel) rfl, zTw_ofL (i := 43) (by decide +kernel) rfl⟩)⟩
def kX11_bitsOf : mM := (yX11_bitsOf, RX11, cX11_bitsOf, 3, some .int, 0, 1)
theorem mkX11_bitsOf : zMok kX11_bitsOf := ⟨zTw_of (i := 1194) (by decide +kernel) rfl, zTw_of (i := 19) (by decide +kernel) rfl, ⟨by decide +kernel, by decide +kernel, by decide +kernel⟩, by decide, (fun _ => zTw_of (i := 1193) (by decide +kernel) rfl), (fun h => (by cases h))⟩
def kX11_read : mM := (yX11_read, RX11, cX11_read, 6, some .int, 1, 2)
theorem mkX11_read : zMok kX11_read := ⟨zTw_of (i := 1198) (by decide +kernel) rfl, zTw_of (i := 19) (by decide +kernel) rfl, ⟨by decide +kernel, by decide +kernel, by decide +kernel⟩, by decide, (fun h => (by cases h)), (fun _ => ⟨zTw_of (i := 1197) (by decide +kernel) rfl, zTw_ofL (i := 44) (by decide +kernel) rfl⟩)⟩
def kX11_next : mM := (yX11_next, RX11, cX11_next, 3, none, 1, 0)
theorem mkX11_next : zMok kX11_next := ⟨zTw_of (i := 1202) (by decide +kernel) rfl, zTw_of (i := 19) (by decide +kernel) rfl, ⟨by decide +kernel, by decide +kernel, by decide +kernel⟩, by decide, (fun h => (by cases h)), (fun _ => ⟨zTw_of (i := 1201) (by decide +kernel) rfl, zTw_ofL (i := 45) (by decide +kernel) rfl⟩)⟩
def kX11_byteAt : mM := (yX11_byteAt, RX11, cX11_byteAt, 2, some .int, 1, 1)
theorem mkX11_byteAt : zMok kX11_byteAt := ⟨zTw_of (i := 1206) (by decide +kernel) rfl, zTw_of (i := 19) (by decide +kernel) rfl, ⟨by decide +kernel, by decide +kernel, by decide +kernel⟩, by decide, (fun h => (by cases h)), (fun _ => ⟨zTw_of (i := 1205) (by decide +kernel) rfl, zTw_ofL (i := 46) (by decide +kernel) rfl⟩)⟩
def kX11_isWord : mM := (yX11_isWord, RX11, cX11_isWord, 9, some .boolean, 1, 8)
theorem mkX11_isWord : zMok kX11_isWord := ⟨zTw_of (i := 1215) (by decide +kernel) rfl, zTw_of (i := 19) (by decide +kernel) rfl, ⟨by decide +kernel, by decide +kernel, by decide +kernel⟩, by decide, (fun h => (by cases h)), (fun _ => ⟨zTw_of (i := 1214) (by decide +kernel) rfl, zTw_ofL (i := 47) (by decide +kernel) rfl⟩)⟩
def kX11_isLetter : mM := (yX11_isLetter, RX11, cX11_isLetter, 3, some .boolean, 1, 2)
theorem mkX11_isLetter : zMok kX11_isLetter := ⟨zTw_of (i := 1219) (by decide +kernel) rfl, zTw_of (i := 19) (by decide +kernel) rfl, ⟨by decide +kernel, by decide +kernel, by decide +kernel⟩, by decide, (fun h => (by cases h)), (fun _ => ⟨zTw_of (i := 1218) (by decide +kernel) rfl, zTw_ofL (i := 48) (by decide +kernel) rfl⟩)⟩
def kX11_part : mM := (yX11_part, RX11, cX11_part, 3, some .int, 1, 1)
theorem mkX11_part : zMok kX11_part := ⟨zTw_of (i := 1223) (by decide +kernel) rfl, zTw_of (i := 19) (by decide +kernel) rfl, ⟨by decide +kernel, by decide +kernel, by decide +kernel⟩, by decide, (fun h => (by cases h)), (fun _ => ⟨zTw_of (i := 1222) (by decide +kernel) rfl, zTw_ofL (i := 49) (by decide +kernel) rfl⟩)⟩
def kX11_fail : mM := (yX11_fail, RX11, cX11_fail, 1, none, 1, 0)
theorem mkX11_fail : zMok kX11_fail := ⟨zTw_of (i := 1227) (by decide +kernel) rfl, zTw_of (i := 19) (by decide +kernel) rfl, ⟨by decide +kernel, by decide +kernel, by decide +kernel⟩, by decide, (fun h => (by cases h)), (fun _ => ⟨zTw_of (i := 1226) (by decide +kernel) rfl, zTw_ofL (i := 50) (by decide +kernel) rfl⟩)⟩
def kX11_either : mM := (yX11_either, RX11, cX11_either, 3, some .int, 1, 0)
theorem mkX11_either : zMok kX11_either := ⟨zTw_of (i := 1231) (by decide +kernel) rfl, zTw_of (i := 19) (by decide +kernel) rfl, ⟨by decide +kernel, by decide +kernel, by decide +kernel⟩, by decide, (fun h => (by cases h)), (fun _ => ⟨zTw_of (i := 1230) (by decide +kernel) rfl, zTw_ofL (i := 51) (by decide +kernel) rfl⟩)⟩
def kX11_both : mM := (yX11_both, RX11, cX11_both, 3, some .int, 1, 0)
theorem mkX11_both : zMok kX11_both := ⟨zTw_of (i := 1235) (by decide +kernel) rfl, zTw_of (i := 19) (by decide +kernel) rfl, ⟨by decide +kernel, by decide +kernel, by decide +kernel⟩, by decide, (fun h => (by cases h)), (fun _ => ⟨zTw_of (i := 1234) (by decide +kernel) rfl, zTw_ofL (i := 52) (by decide +kernel) rfl⟩)⟩
def kX11_not : mM := (yX11_not, RX11, cX11_not, 4, some .int, 1, 0)
theorem mkX11_not : zMok kX11_not := ⟨zTw_of (i := 1239) (by decide +kernel) rfl, zTw_of (i := 19) (by decide +kernel) rfl, ⟨by decide +kernel, by decide +kernel, by decide +kernel⟩, by decide, (fun h => (by cases h)), (fun _ => ⟨zTw_of (i := 1238) (by decide +kernel) rfl, zTw_ofL (i := 53) (by decide +kernel) rfl⟩)⟩
def kX11_opens : mM := (yX11_opens, RX11, cX11_opens, 1, some .boolean, 1, 0)
theorem mkX11_opens : zMok kX11_opens := ⟨zTw_of (i := 1243) (by decide +kernel) rfl, zTw_of (i := 19) (by decide +kernel) rfl, ⟨by decide +kernel, by decide +kernel, by decide +kernel⟩, by decide, (fun h => (by cases h)), (fun _ => ⟨zTw_of (i := 1242) (by decide +kernel) rfl, zTw_ofL (i := 54) (by decide +kernel) rfl⟩)⟩
def kX11_added : mM := (yX11_added, RX11, cX11_added, 4, some .int, 1, 0)
theorem mkX11_added : zMok kX11_added := ⟨zTw_of (i := 1247) (by decide +kernel) rfl, zTw_of (i := 19) (by decide +kernel) rfl, ⟨by decide +kernel, by decide +kernel, by decide +kernel⟩, by decide, (fun h => (by cases h)), (fun _ => ⟨zTw_of (i := 1246) (by decide +kernel) rfl, zTw_ofL (i := 55) (by decide +kernel) rfl⟩)⟩
def kX11_term : mM := (yX11_term, RX11, cX11_term, 2, some .int, 1, 0)
theorem mkX11_term : zMok kX11_term := ⟨zTw_of (i := 1251) (by decide +kernel) rfl, zTw_of (i := 19) (by decide +kernel) rfl, ⟨by decide +kernel, by decide +kernel, by decide +kernel⟩, by decide, (fun h => (by cases h)), (fun _ => ⟨zTw_of (i := 1250) (by decide +kernel) rfl, zTw_ofL (i := 56) (by decide +kernel) rfl⟩)⟩
def kX11_atom : mM := (yX11_atom, RX11, cX11_atom, 2, some .int, 1, 0)
theorem mkX11_atom : zMok kX11_atom := ⟨zTw_of (i := 1255) (by decide +kernel) rfl, zTw_of (i := 19) (by decide +kernel) rfl, ⟨by decide +kernel, by decide +kernel, by decide +kernel⟩, by decide, (fun h => (by cases h)), (fun _ => ⟨zTw_of (i := 1254) (by decide +kernel) rfl, zTw_ofL (i := 57) (by decide +kernel) rfl⟩)⟩
def kX11_isSign : mM := (yX11_isSign, RX11, cX11_isSign, 2, some .boolean, 1, 1)
theorem mkX11_isSign : zMok kX11_isSign := ⟨zTw_of (i := 1259) (by decide +kernel) rfl, zTw_of (i := 19) (by decide +kernel) rfl, ⟨by decide +kernel, by decide +kernel, by decide +kernel⟩, by decide, (fun h => (by cases h)), (fun _ => ⟨zTw_of (i := 1258) (by decide +kernel) rfl, zTw_ofL (i := 58) (by decide +kernel) rfl⟩)⟩
def kX11_name : mM := (yX11_name, RX11, cX11_name, 1, some .int, 1, 0)
theorem mkX11_name : zMok kX11_name := ⟨zTw_of (i := 1263) (by decide +kernel) rfl, zTw_of (i := 19) (by decide +kernel) rfl, ⟨by decide +kernel, by decide +kernel, by decide +kernel⟩, by decide, (fun h => (by cases h)), (fun _ => ⟨zTw_of (i := 1262) (by decide +kernel) rfl, zTw_ofL (i := 59) (by decide +kernel) rfl⟩)⟩
def kX11_within : mM := (yX11_within, RX11, cX11_within, 3, some .int, 0, 3)
theorem mkX11_within : zMok kX11_within := ⟨zTw_of (i := 1268) (by decide +kernel) rfl, zTw_of (i := 19) (by decide +kernel) rfl, ⟨by decide +kernel, by decide +kernel, by decide +kernel⟩, by decide, (fun _ => zTw_of (i := 1267) (by decide +kernel) rfl), (fun h => (by cases h))⟩
def kX11_lays1 : mM := (yX11_lays1, RX11, cX11_lays1, 4, none, 1, 3)
theorem mkX11_lays1 : zMok kX11_lays1 := ⟨zTw_of (i := 1272) (by decide +kernel) rfl, zTw_of (i := 19) (by decide +kernel) rfl, ⟨by decide +kernel, by decide +kernel, by decide +kernel⟩, by decide, (fun h => (by cases h)), (fun _ => ⟨zTw_of (i := 1271) (by decide +kernel) rfl, zTw_ofL (i := 60) (by decide +kernel) rfl⟩)⟩
def kX11_hen : mM := (yX11_hen, RX11, cX11_hen, 3, some .int, 1, 2)
theorem mkX11_hen : zMok kX11_hen := ⟨zTw_of (i := 1276) (by decide +kernel) rfl, zTw_of (i := 19) (by decide +kernel) rfl, ⟨by decide +kernel, by decide +kernel, by decide +kernel⟩, by decide, (fun h => (by cases h)), (fun _ => ⟨zTw_of (i := 1274) (by decide +kernel) rfl, zTw_of (i := 1275) (by decide +kernel) rfl⟩)⟩
def kX11_feed : mM := (yX11_feed, RX11, cX11_feed, 2, some .int, 1, 1)
theorem mkX11_feed : zMok kX11_feed := ⟨zTw_of (i := 1282) (by decide +kernel) rfl, zTw_of (i := 19) (by decide +kernel) rfl, ⟨by decide +kernel, by decide +kernel, by decide +kernel⟩, by decide, (fun h => (by cases h)), (fun _ => ⟨zTw_of (i := 1280) (by decide +kernel) rfl, zTw_of (i := 1281) (by decide +kernel) rfl⟩)⟩
def kX11_text : mM := (yX11_text, RX11, cX11_text, 2, some .int, 1, 0)
theorem mkX11_text : zMok kX11_text := ⟨zTw_of (i := 1287) (by decide +kernel) rfl, zTw_of (i := 19) (by decide +kernel) rfl, ⟨by decide +kernel, by decide +kernel, by decide +kernel⟩, by decide, (fun h => (by cases h)), (fun _ => ⟨zTw_of (i := 1285) (by decide +kernel) rfl, zTw_of (i := 1286) (by decide +kernel) rfl⟩)⟩
def kX11_force : mM := (yX11_force, RX11, cX11_force, 3, some .int, 1, 1)
theorem mkX11_force : zMok kX11_force := ⟨zTw_of (i := 1291) (by decide +kernel) rfl, zTw_of (i := 19) (by decide +kernel) rfl, ⟨by decide +kernel, by decide +kernel, by decide +kernel⟩, by decide, (fun h => (by cases h)), (fun _ => ⟨zTw_of (i := 1289) (by decide +kernel) rfl, zTw_of (i := 1290) (by decide +kernel) rfl⟩)⟩
def kX11_asks : mM := (yX11_asks, RX11, cX11_asks, 4, some .int, 1, 3)
theorem mkX11_asks : zMok kX11_asks := ⟨zTw_of (i := 1295) (by decide +kernel) rfl, zTw_of (i := 19) (by decide +kernel) rfl, ⟨by decide +kernel, by decide +kernel, by decide +kernel⟩, by decide, (fun h => (by cases h)), (fun _ => ⟨zTw_of (i := 1293) (by decide +kernel) rfl, zTw_of (i := 1294) (by decide +kernel) rfl⟩)⟩
def kX11_laysOf : mM := (yX11_laysOf, RX11, cX11_laysOf, 8, some .int, 1, 2)
theorem mkX11_laysOf : zMok kX11_laysOf := ⟨zTw_of (i := 1299) (by decide +kernel) rfl, zTw_of (i := 19) (by decide +kernel) rfl, ⟨by decide +kernel, by decide +kernel, by decide +kernel⟩, by decide, (fun h => (by cases h)), (fun _ => ⟨zTw_of (i := 1298) (by decide +kernel) rfl, zTw_ofL (i := 61) (by decide +kernel) rfl⟩)⟩
def kX11_yieldsTo : mM := (yX11_yieldsTo, RX11, cX11_yieldsTo, 5, some .boolean, 1, 2)
theorem mkX11_yieldsTo : zMok kX11_yieldsTo := ⟨zTw_of (i := 1303) (by decide +kernel) rfl, zTw_of (i := 19) (by decide +kernel) rfl, ⟨by decide +kernel, by decide +kernel, by decide +kernel⟩, by decide, (fun h => (by cases h)), (fun _ => ⟨zTw_of (i := 1302) (by decide +kernel) rfl, zTw_ofL (i := 62) (by decide +kernel) rfl⟩)⟩
def kX11_argue : mM := (yX11_argue, RX11, cX11_argue, 3, some .int, 1, 2)
theorem mkX11_argue : zMok kX11_argue := ⟨zTw_of (i := 1307) (by decide +kernel) rfl, zTw_of (i := 19) (by decide +kernel) rfl, ⟨by decide +kernel, by decide +kernel, by decide +kernel⟩, by decide, (fun h => (by cases h)), (fun _ => ⟨zTw_of (i := 1305) (by decide +kernel) rfl, zTw_of (i := 1306) (by decide +kernel) rfl⟩)⟩
def kX11_puts : mM := (yX11_puts, RX11, cX11_puts, 4, some .int, 1, 2)
theorem mkX11_puts : zMok kX11_puts := ⟨zTw_of (i := 1311) (by decide +kernel) rfl, zTw_of (i := 19) (by decide +kernel) rfl, ⟨by decide +kernel, by decide +kernel, by decide +kernel⟩, by decide, (fun h => (by cases h)), (fun _ => ⟨zTw_of (i := 1310) (by decide +kernel) rfl, zTw_ofL (i := 63) (by decide +kernel) rfl⟩)⟩
def kX11_night : mM := (yX11_night, RX11, cX11_night, 1, some .int, 1, 0)
theorem mkX11_night : zMok kX11_night := ⟨zTw_of (i := 1315) (by decide +kernel) rfl, zTw_of (i := 19) (by decide +kernel) rfl, ⟨by decide +kernel, by decide +kernel, by decide +kernel⟩, by decide, (fun h => (by cases h)), (fun _ => ⟨zTw_of (i := 1313) (by decide +kernel) rfl, zTw_of (i := 1314) (by decide +kernel) rfl⟩)⟩
def kX11_passes : mM := (yX11_passes, RX11, cX11_passes, 3, some .int, 1, 0)
theorem mkX11_passes : zMok kX11_passes := ⟨zTw_of (i := 1319) (by decide +kernel) rfl, zTw_of (i := 19) (by decide +kernel) rfl, ⟨by decide +kernel, by decide +kernel, by decide +kernel⟩, by decide, (fun h => (by cases h)), (fun _ => ⟨zTw_of (i := 1318) (by decide +kernel) rfl, zTw_ofL (i := 64) (by decide +kernel) rfl⟩)⟩
def kX11_morning : mM := (yX11_morning, RX11, cX11_morning, 7, some .int, 1, 3)
theorem mkX11_morning : zMok kX11_morning := ⟨zTw_of (i := 1323) (by decide +kernel) rfl, zTw_of (i := 19) (by decide +kernel) rfl, ⟨by decide +kernel, by decide +kernel, by decide +kernel⟩, by decide, (fun h => (by cases h)), (fun _ => ⟨zTw_of (i := 1321) (by decide +kernel) rfl, zTw_of (i := 1322) (by decide +kernel) rfl⟩)⟩
def kX11_isSheet : mM := (yX11_isSheet, RX11, cX11_isSheet, 1, some .boolean, 0, 1)
theorem mkX11_isSheet : zMok kX11_isSheet := ⟨zTw_of (i := 1326) (by decide +kernel) rfl, zTw_of (i := 19) (by decide +kernel) rfl, ⟨by decide +kernel, by decide +kernel, by decide +kernel⟩, by decide, (fun _ => zTw_of (i := 1325) (by decide +kernel) rfl), (fun h => (by cases h))⟩
def kX11_morningBad : mM := (yX11_morningBad, RX11, cX11_morningBad, 3, some .int, 1, 1)
theorem mkX11_morningBad : zMok kX11_morningBad := ⟨zTw_of (i := 1330) (by decide +kernel) rfl, zTw_of (i := 19) (by decide +kernel) rfl, ⟨by decide +kernel, by decide +kernel, by decide +kernel⟩, by decide, (fun h => (by cases h)), (fun _ => ⟨zTw_of (i := 1329) (by decide +kernel) rfl, zTw_ofL (i := 65) (by decide +kernel) rfl⟩)⟩
def kX11_laysAside : mM := (yX11_laysAside, RX11, cX11_laysAside, 2, none, 1, 0)
theorem mkX11_laysAside : zMok kX11_laysAside := ⟨zTw_of (i := 1334) (by decide +kernel) rfl, zTw_of (i := 19) (by decide +kernel) rfl, ⟨by decide +kernel, by decide +kernel, by decide +kernel⟩, by decide, (fun h => (by cases h)), (fun _ => ⟨zTw_of (i := 1333) (by decide +kernel) rfl, zTw_ofL (i := 66) (by decide +kernel) rfl⟩)⟩
def kX11_mornings : mM := (yX11_mornings, RX11, cX11_mornings, 6, some .int, 1, 2)
theorem mkX11_mornings : zMok kX11_mornings := ⟨zTw_of (i := 1338) (by decide +kernel) rfl, zTw_of (i := 19) (by decide +kernel) rfl, ⟨by decide +kernel, by decide +kernel, by decide +kernel⟩, by decide, (fun h => (by cases h)), (fun _ => ⟨zTw_of (i := 1337) (by decide +kernel) rfl, zTw_ofL (i := 67) (by decide +kernel) rfl⟩)⟩
def kX11_laysBack : mM := (yX11_laysBack, RX11, cX11_laysBack, 2, none, 1, 0)
theorem mkX11_laysBack : zMok kX11_laysBack := ⟨zTw_of (i := 1342) (by decide +kernel) rfl, zTw_of (i := 19) (by decide +kernel) rfl, ⟨by decide +kernel, by decide +kernel, by decide +kernel⟩, by decide, (fun h => (by cases h)), (fun _ => ⟨zTw_of (i := 1341) (by decide +kernel) rfl, zTw_ofL (i := 68) (by decide +kernel) rfl⟩)⟩
def kX11_teach : mM := (yX11_teach, RX11, cX11_teach, 4, some .int, 1, 2)
theorem mkX11_teach : zMok kX11_teach := ⟨zTw_of (i := 1346) (by decide +kernel) rfl, zTw_of (i := 19) (by decide +kernel) rfl, ⟨by decide +kernel, by decide +kernel, by decide +kernel⟩, by decide, (fun h => (by cases h)), (fun _ => ⟨zTw_of (i := 1344) (by decide +kernel) rfl, zTw_of (i := 1345) (by decide +kernel) rfl⟩)⟩
def kX11_nights : mM := (yX11_nights, RX11, cX11_nights, 7, some .int, 1, 4)
theorem mkX11_nights : zMok kX11_nights := ⟨zTw_of (i := 1350) (by decide +kernel) rfl, zTw_of (i := 19) (by decide +kernel) rfl, ⟨by decide +kernel, by decide +kernel, by decide +kernel⟩, by decide, (fun h => (by cases h)), (fun _ => ⟨zTw_of (i := 1348) (by decide +kernel) rfl, zTw_of (i := 1349) (by decide +kernel) rfl⟩)⟩
def kX11_field : mM := (yX11_field, RX11, cX11_field, 2, some .int, 1, 1)
theorem mkX11_field : zMok kX11_field := ⟨zTw_of (i := 1355) (by decide +kernel) rfl, zTw_of (i := 19) (by decide +kernel) rfl, ⟨by decide +kernel, by decide +kernel, by decide +kernel⟩, by decide, (fun h => (by cases h)), (fun _ => ⟨zTw_of (i := 1353) (by decide +kernel) rfl, zTw_of (i := 1354) (by decide +kernel) rfl⟩)⟩
def kX11_labels : mM := (yX11_labels, RX11, cX11_labels, 3, none, 1, 0)
theorem mkX11_labels : zMok kX11_labels := ⟨zTw_of (i := 1359) (by decide +kernel) rfl, zTw_of (i := 19) (by decide +kernel) rfl, ⟨by decide +kernel, by decide +kernel, by decide +kernel⟩, by decide, (fun h => (by cases h)), (fun _ => ⟨zTw_of (i := 1358) (by decide +kernel) rfl, zTw_ofL (i := 69) (by decide +kernel) rfl⟩)⟩
def kX11_vainTwos : mM := (yX11_vainTwos, RX11, cX11_vainTwos, 3, some .int, 1, 0)
theorem mkX11_vainTwos : zMok kX11_vainTwos := ⟨zTw_of (i := 1363) (by decide +kernel) rfl, zTw_of (i := 19) (by decide +kernel) rfl, ⟨by decide +kernel, by decide +kernel, by decide +kernel⟩, by decide, (fun h => (by cases h)), (fun _ => ⟨zTw_of (i := 1362) (by decide +kernel) rfl, zTw_ofL (i := 70) (by decide +kernel) rfl⟩)⟩
def kX11_counted : mM := (yX11_counted, RX11, cX11_counted, 5, some .int, 1, 1)
theorem mkX11_counted : zMok kX11_counted := ⟨zTw_of (i := 1367) (by decide +kernel) rfl, zTw_of (i := 19) (by decide +kernel) rfl, ⟨by decide +kernel, by decide +kernel, by decide +kernel⟩, by decide, (fun h => (by cases h)), (fun _ => ⟨zTw_of (i := 1366) (by decide +kernel) rfl, zTw_ofL (i := 71) (by decide +kernel) rfl⟩)⟩
def kX11_isFree : mM := (yX11_isFree, RX11, cX11_isFree, 3, some .boolean, 1, 1)
theorem mkX11_isFree : zMok kX11_isFree := ⟨zTw_of (i := 1371) (by decide +kernel) rfl, zTw_of (i := 19) (by decide +kernel) rfl, ⟨by decide +kernel, by decide +kernel, by decide +kernel⟩, by decide, (fun h => (by cases h)), (fun _ => ⟨zTw_of (i := 1370) (by decide +kernel) rfl, zTw_ofL (i := 72) (by decide +kernel) rfl⟩)⟩
def kX11_isStable : mM := (yX11_isStable, RX11, cX11_isStable, 4, some .boolean, 1, 1)
theorem mkX11_isStable : zMok kX11_isStable := ⟨zTw_of (i := 1375) (by decide +kernel) rfl, zTw_of (i := 19) (by decide +kernel) rfl, ⟨by decide +kernel, by decide +kernel, by decide +kernel⟩, by decide, (fun h => (by cases h)), (fun _ => ⟨zTw_of (i := 1374) (by decide +kernel) rfl, zTw_ofL (i := 73) (by decide +kernel) rfl⟩)⟩
def kX11_sets : mM := (yX11_sets, RX11, cX11_sets, 3, some .int, 1, 2)
theorem mkX11_sets : zMok kX11_sets := ⟨zTw_of (i := 1379) (by decide +kernel) rfl, zTw_of (i := 19) (by decide +kernel) rfl, ⟨by decide +kernel, by decide +kernel, by decide +kernel⟩, by decide, (fun h => (by cases h)), (fun _ => ⟨zTw_of (i := 1377) (by decide +kernel) rfl, zTw_of (i := 1378) (by decide +kernel) rfl⟩)⟩
def kX11_defended : mM := (yX11_defended, RX11, cX11_defended, 6, some .int, 1, 1)
theorem mkX11_defended : zMok kX11_defended := ⟨zTw_of (i := 1385) (by decide +kernel) rfl, zTw_of (i := 19) (by decide +kernel) rfl, ⟨by decide +kernel, by decide +kernel, by decide +kernel⟩, by decide, (fun h => (by cases h)), (fun _ => ⟨zTw_of (i := 1384) (by decide +kernel) rfl, zTw_ofL (i := 74) (by decide +kernel) rfl⟩)⟩
def kX11_share : mM := (yX11_share, RX11, cX11_share, 2, some .long, 1, 1)
theorem mkX11_share : zMok kX11_share := ⟨zTw_of (i := 1389) (by decide +kernel) rfl, zTw_of (i := 19) (by decide +kernel) rfl, ⟨by decide +kernel, by decide +kernel, by decide +kernel⟩, by decide, (fun h => (by cases h)), (fun _ => ⟨zTw_of (i := 1387) (by decide +kernel) rfl, zTw_of (i := 1388) (by decide +kernel) rfl⟩)⟩
def kX11_lowest : mM := (yX11_lowest, RX11, cX11_lowest, 11, some .long, 0, 3)
theorem mkX11_lowest : zMok kX11_lowest := ⟨zTw_of (i := 1393) (by decide +kernel) rfl, zTw_of (i := 19) (by decide +kernel) rfl, ⟨by decide +kernel, by decide +kernel, by decide +kernel⟩, by decide, (fun _ => zTw_of (i := 1392) (by decide +kernel) rfl), (fun h => (by cases h))⟩
def kX11_best : mM := (yX11_best, RX11, cX11_best, 8, some .int, 1, 2)
theorem mkX11_best : zMok kX11_best := ⟨zTw_of (i := 1397) (by decide +kernel) rfl, zTw_of (i := 19) (by decide +kernel) rfl, ⟨by decide +kernel, by decide +kernel, by decide +kernel⟩, by decide, (fun h => (by cases h)), (fun _ => ⟨zTw_of (i := 1395) (by decide +kernel) rfl, zTw_of (i := 1396) (by decide +kernel) rfl⟩)⟩
def kX11_agreed : mM := (yX11_agreed, RX11, cX11_agreed, 3, some .int, 1, 2)
theorem mkX11_agreed : zMok kX11_agreed := ⟨zTw_of (i := 1401) (by decide +kernel) rfl, zTw_of (i := 19) (by decide +kernel) rfl, ⟨by decide +kernel, by decide +kernel, by decide +kernel⟩, by decide, (fun h => (by cases h)), (fun _ => ⟨zTw_of (i := 1400) (by decide +kernel) rfl, zTw_ofL (i := 75) (by decide +kernel) rfl⟩)⟩
def kX11_three : mM := (yX11_three, RX11, cX11_three, 4, some .int, 1, 3)
theorem mkX11_three : zMok kX11_three := ⟨zTw_of (i := 1405) (by decide +kernel) rfl, zTw_of (i := 19) (by decide +kernel) rfl, ⟨by decide +kernel, by decide +kernel, by decide +kernel⟩, by decide, (fun h => (by cases h)), (fun _ => ⟨zTw_of (i := 1403) (by decide +kernel) rfl, zTw_of (i := 1404) (by decide +kernel) rfl⟩)⟩
def kX11_tries : mM := (yX11_tries, RX11, cX11_tries, 9, none, 1, 4)
theorem mkX11_tries : zMok kX11_tries := ⟨zTw_of (i := 1409) (by decide +kernel) rfl, zTw_of (i := 19) (by decide +kernel) rfl, ⟨by decide +kernel, by decide +kernel, by decide +kernel⟩, by decide, (fun h => (by cases h)), (fun _ => ⟨zTw_of (i := 1408) (by decide +kernel) rfl, zTw_ofL (i := 76) (by decide +kernel) rfl⟩)⟩
def kX11_whom : mM := (yX11_whom, RX11, cX11_whom, 7, some .int, 1, 2)
theorem mkX11_whom : zMok kX11_whom := ⟨zTw_of (i := 1413) (by decide +kernel) rfl, zTw_of (i := 19) (by decide +kernel) rfl, ⟨by decide +kernel, by decide +kernel, by decide +kernel⟩, by decide, (fun h => (by cases h)), (fun _ => ⟨zTw_of (i := 1411) (by decide +kernel) rfl, zTw_of (i := 1412) (by decide +kernel) rfl⟩)⟩
def kX11_win : mM := (yX11_win, RX11, cX11_win, 4, some .int, 1, 2)
theorem mkX11_win : zMok kX11_win := ⟨zTw_of (i := 1417) (by decide +kernel) rfl, zTw_of (i := 19) (by decide +kernel) rfl, ⟨by decide +kernel, by decide +kernel, by decide +kernel⟩, by decide, (fun h => (by cases h)), (fun _ => ⟨zTw_of (i := 1415) (by decide +kernel) rfl, zTw_of (i := 1416) (by decide +kernel) rfl⟩)⟩
def kX11_comesTo : mM := (yX11_comesTo, RX11, cX11_comesTo, 8, some .boolean, 1, 3)
theorem mkX11_comesTo : zMok kX11_comesTo := ⟨zTw_of (i := 1421) (by decide +kernel) rfl, zTw_of (i := 19) (by decide +kernel) rfl, ⟨by decide +kernel, by decide +kernel, by decide +kernel⟩, by decide, (fun h => (by cases h)), (fun _ => ⟨zTw_of (i := 1420) (by decide +kernel) rfl, zTw_ofL (i := 77) (by decide +kernel) rfl⟩)⟩
def kX11_agree : mM := (yX11_agree, RX11, cX11_agree, 3, some .int, 1, 2)
theorem mkX11_agree : zMok kX11_agree := ⟨zTw_of (i := 1425) (by decide +kernel) rfl, zTw_of (i := 19) (by decide +kernel) rfl, ⟨by decide +kernel, by decide +kernel, by decide +kernel⟩, by decide, (fun h => (by cases h)), (fun _ => ⟨zTw_of (i := 1423) (by decide +kernel) rfl, zTw_of (i := 1424) (by decide +kernel) rfl⟩)⟩
def kX11_tells : mM := (yX11_tells, RX11, cX11_tells, 11, some .int, 1, 3)
theorem mkX11_tells : zMok kX11_tells := ⟨zTw_of (i := 1429) (by decide +kernel) rfl, zTw_of (i := 19) (by decide +kernel) rfl, ⟨by decide +kernel, by decide +kernel, by decide +kernel⟩, by decide, (fun h => (by cases h)), (fun _ => ⟨zTw_of (i := 1427) (by decide +kernel) rfl, zTw_of (i := 1428) (by decide +kernel) rfl⟩)⟩
def kX11_firstOther : mM := (yX11_firstOther, RX11, cX11_firstOther, 4, some .int, 1, 2)
theorem mkX11_firstOther : zMok kX11_firstOther := ⟨zTw_of (i := 1433) (by decide +kernel) rfl, zTw_of (i := 19) (by decide +kernel) rfl, ⟨by decide +kernel, by decide +kernel, by decide +kernel⟩, by decide, (fun h => (by cases h)), (fun _ => ⟨zTw_of (i := 1432) (by decide +kernel) rfl, zTw_ofL (i := 78) (by decide +kernel) rfl⟩)⟩
def kX11_likeSet : mM := (yX11_likeSet, RX11, cX11_likeSet, 4, some .int, 1, 1)
theorem mkX11_likeSet : zMok kX11_likeSet := ⟨zTw_of (i := 1437) (by decide +kernel) rfl, zTw_of (i := 19) (by decide +kernel) rfl, ⟨by decide +kernel, by decide +kernel, by decide +kernel⟩, by decide, (fun h => (by cases h)), (fun _ => ⟨zTw_of (i := 1436) (by decide +kernel) rfl, zTw_ofL (i := 79) (by decide +kernel) rfl⟩)⟩
def kX11_turnedSet : mM := (yX11_turnedSet, RX11, cX11_turnedSet, 5, some .int, 1, 2)
theorem mkX11_turnedSet : zMok kX11_turnedSet := ⟨zTw_of (i := 1441) (by decide +kernel) rfl, zTw_of (i := 19) (by decide +kernel) rfl, ⟨by decide +kernel, by decide +kernel, by decide +kernel⟩, by decide, (fun h => (by cases h)), (fun _ => ⟨zTw_of (i := 1440) (by decide +kernel) rfl, zTw_ofL (i := 80) (by decide +kernel) rfl⟩)⟩
def kX11_film : mM := (yX11_film, RX11, cX11_film, 5, some .int, 1, 2)
theorem mkX11_film : zMok kX11_film := ⟨zTw_of (i := 1445) (by decide +kernel) rfl, zTw_of (i := 19) (by decide +kernel) rfl, ⟨by decide +kernel, by decide +kernel, by decide +kernel⟩, by decide, (fun h => (by cases h)), (fun _ => ⟨zTw_of (i := 1443) (by decide +kernel) rfl, zTw_of (i := 1444) (by decide +kernel) rfl⟩)⟩
def kX11_sheet : mM := (yX11_sheet, RX11, cX11_sheet, 5, some .int, 1, 3)
theorem mkX11_sheet : zMok kX11_sheet := ⟨zTw_of (i := 1449) (by decide +kernel) rfl, zTw_of (i := 19) (by decide +kernel) rfl, ⟨by decide +kernel, by decide +kernel, by decide +kernel⟩, by decide, (fun h => (by cases h)), (fun _ => ⟨zTw_of (i := 1447) (by decide +kernel) rfl, zTw_of (i := 1448) (by decide +kernel) rfl⟩)⟩
def kX11_drawn : mM := (yX11_drawn, RX11, cX11_drawn, 4, some .int, 1, 3)
theorem mkX11_drawn : zMok kX11_drawn := ⟨zTw_of (i := 1454) (by decide +kernel) rfl, zTw_of (i := 19) (by decide +kernel) rfl, ⟨by decide +kernel, by decide +kernel, by decide +kernel⟩, by decide, (fun h => (by cases h)), (fun _ => ⟨zTw_of (i := 1452) (by decide +kernel) rfl, zTw_of (i := 1453) (by decide +kernel) rfl⟩)⟩
def kX11_laidDrawn : mM := (yX11_laidDrawn, RX11, cX11_laidDrawn, 7, some .int, 1, 3)
theorem mkX11_laidDrawn : zMok kX11_laidDrawn := ⟨zTw_of (i := 1458) (by decide +kernel) rfl, zTw_of (i := 19) (by decide +kernel) rfl, ⟨by decide +kernel, by decide +kernel, by decide +kernel⟩, by decide, (fun h => (by cases h)), (fun _ => ⟨zTw_of (i := 1457) (by decide +kernel) rfl, zTw_ofL (i := 81) (by decide +kernel) rfl⟩)⟩
def kX11_chance : mM := (yX11_chance, RX11, cX11_chance, 9, some .long, 1, 5)
theorem mkX11_chance : zMok kX11_chance := ⟨zTw_of (i := 1463) (by decide +kernel) rfl, zTw_of (i := 19) (by decide +kernel) rfl, ⟨by decide +kernel, by decide +kernel, by decide +kernel⟩, by decide, (fun h => (by cases h)), (fun _ => ⟨zTw_of (i := 1461) (by decide +kernel) rfl, zTw_of (i := 1462) (by decide +kernel) rfl⟩)⟩
def kX11_image : mM := (yX11_image, RX11, cX11_image, 2, some .int, 1, 0)
theorem mkX11_image : zMok kX11_image := ⟨zTw_of (i := 1469) (by decide +kernel) rfl, zTw_of (i := 19) (by decide +kernel) rfl, ⟨by decide +kernel, by decide +kernel, by decide +kernel⟩, by decide, (fun h => (by cases h)), (fun _ => ⟨zTw_of (i := 1467) (by decide +kernel) rfl, zTw_of (i := 1468) (by decide +kernel) rfl⟩)⟩
def kX11_back : mM := (yX11_back, RX11, cX11_back, 2, some .int, 1, 0)
theorem mkX11_back : zMok kX11_back := ⟨zTw_of (i := 1473) (by decide +kernel) rfl, zTw_of (i := 19) (by decide +kernel) rfl, ⟨by decide +kernel, by decide +kernel, by decide +kernel⟩, by decide, (fun h => (by cases h)), (fun _ => ⟨zTw_of (i := 1471) (by decide +kernel) rfl, zTw_of (i := 1472) (by decide +kernel) rfl⟩)⟩
def kX11_count : mM := (yX11_count, RX11, cX11_count, 4, some .int, 1, 1)
theorem mkX11_count : zMok kX11_count := ⟨zTw_of (i := 1477) (by decide +kernel) rfl, zTw_of (i := 19) (by decide +kernel) rfl, ⟨by decide +kernel, by decide +kernel, by decide +kernel⟩, by decide, (fun h => (by cases h)), (fun _ => ⟨zTw_of (i := 1475) (by decide +kernel) rfl, zTw_of (i := 1476) (by decide +kernel) rfl⟩)⟩
def kX11_twos : mM := (yX11_twos, RX11, cX11_twos, 3, some .int, 1, 0)
theorem mkX11_twos : zMok kX11_twos := ⟨zTw_of (i := 1481) (by decide +kernel) rfl, zTw_of (i := 19) (by decide +kernel) rfl, ⟨by decide +kernel, by decide +kernel, by decide +kernel⟩, by decide, (fun h => (by cases h)), (fun _ => ⟨zTw_of (i := 1480) (by decide +kernel) rfl, zTw_ofL (i := 82) (by decide +kernel) rfl⟩)⟩
def kX11_cell : mM := (yX11_cell, RX11, cX11_cell, 4, some .int, 1, 3)
theorem mkX11_cell : zMok kX11_cell := ⟨zTw_of (i := 1486) (by decide +kernel) rfl, zTw_of (i := 19) (by decide +kernel) rfl, ⟨by decide +kernel, by decide +kernel, by decide +kernel⟩, by decide, (fun h => (by cases h)), (fun _ => ⟨zTw_of (i := 1484) (by decide +kernel) rfl, zTw_of (i := 1485) (by decide +kernel) rfl⟩)⟩
def kX11_copy : mM := (yX11_copy, RX11, cX11_copy, 9, some .int, 1, 5)
theorem mkX11_copy : zMok kX11_copy := ⟨zTw_of (i := 1490) (by decide +kernel) rfl, zTw_of (i := 19) (by decide +kernel) rfl, ⟨by decide +kernel, by decide +kernel, by decide +kernel⟩, by decide, (fun h => (by cases h)), (fun _ => ⟨zTw_of (i := 1488) (by decide +kernel) rfl, zTw_of (i := 1489) (by decide +kernel) rfl⟩)⟩
def kX11_hens : mM := (yX11_hens, RX11, cX11_hens, 8, some .int, 1, 4)
theorem mkX11_hens : zMok kX11_hens := ⟨zTw_of (i := 1494) (by decide +kernel) rfl, zTw_of (i := 19) (by decide +kernel) rfl, ⟨by decide +kernel, by decide +kernel, by decide +kernel⟩, by decide, (fun h => (by cases h)), (fun _ => ⟨zTw_of (i := 1492) (by decide +kernel) rfl, zTw_of (i := 1493) (by decide +kernel) rfl⟩)⟩
def kX11_taken : mM := (yX11_taken, RX11, cX11_taken, 4, some .int, 1, 2)
theorem mkX11_taken : zMok kX11_taken := ⟨zTw_of (i := 1499) (by decide +kernel) rfl, zTw_of (i := 19) (by decide +kernel) rfl, ⟨by decide +kernel, by decide +kernel, by decide +kernel⟩, by decide, (fun h => (by cases h)), (fun _ => ⟨zTw_of (i := 1497) (by decide +kernel) rfl, zTw_of (i := 1498) (by decide +kernel) rfl⟩)⟩
def kX11_over : mM := (yX11_over, RX11, cX11_over, 1, some .int, 0, 1)
theorem mkX11_over : zMok kX11_over := ⟨zTw_of (i := 1502) (by decide +kernel) rfl, zTw_of (i := 19) (by decide +kernel) rfl, ⟨by decide +kernel, by decide +kernel, by decide +kernel⟩, by decide, (fun _ => zTw_of (i := 1501) (by decide +kernel) rfl), (fun h => (by cases h))⟩
